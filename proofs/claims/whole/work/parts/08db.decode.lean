theorem dc_Cut_init_0 : decode prog_2_method_1_code 0 = .ok (.aload_n 0, 1) := by decide +kernel
theorem dc_Cut_init_1 : decode prog_2_method_1_code 1 = .ok (.invokespecial 3, 3) := by decide +kernel
theorem dc_Cut_init_4 : decode prog_2_method_1_code 4 = .ok (.aload_n 0, 1) := by decide +kernel
theorem dc_Cut_init_5 : decode prog_2_method_1_code 5 = .ok (.new 9, 3) := by decide +kernel
theorem dc_Cut_init_8 : decode prog_2_method_1_code 8 = .ok (.dup, 1) := by decide +kernel
theorem dc_Cut_init_9 : decode prog_2_method_1_code 9 = .ok (.bipush 120, 2) := by decide +kernel
theorem dc_Cut_init_11 : decode prog_2_method_1_code 11 = .ok (.invokespecial 11, 3) := by decide +kernel
theorem dc_Cut_init_14 : decode prog_2_method_1_code 14 = .ok (.putfield 14, 3) := by decide +kernel
theorem dc_Cut_init_17 : decode prog_2_method_1_code 17 = .ok (.aload_n 0, 1) := by decide +kernel
theorem dc_Cut_init_18 : decode prog_2_method_1_code 18 = .ok (.bipush 30, 2) := by decide +kernel
theorem dc_Cut_init_20 : decode prog_2_method_1_code 20 = .ok (.anewarray 9, 3) := by decide +kernel
theorem dc_Cut_init_23 : decode prog_2_method_1_code 23 = .ok (.putfield 20, 3) := by decide +kernel
theorem dc_Cut_init_26 : decode prog_2_method_1_code 26 = .ok (.aload_n 0, 1) := by decide +kernel
theorem dc_Cut_init_27 : decode prog_2_method_1_code 27 = .ok (.new 9, 3) := by decide +kernel
theorem dc_Cut_init_30 : decode prog_2_method_1_code 30 = .ok (.dup, 1) := by decide +kernel
theorem dc_Cut_init_31 : decode prog_2_method_1_code 31 = .ok (.iconst 0, 1) := by decide +kernel
theorem dc_Cut_init_32 : decode prog_2_method_1_code 32 = .ok (.invokespecial 11, 3) := by decide +kernel
theorem dc_Cut_init_35 : decode prog_2_method_1_code 35 = .ok (.putfield 24, 3) := by decide +kernel
theorem dc_Cut_init_38 : decode prog_2_method_1_code 38 = .ok (.aload_n 0, 1) := by decide +kernel
theorem dc_Cut_init_39 : decode prog_2_method_1_code 39 = .ok (.new 9, 3) := by decide +kernel
theorem dc_Cut_init_42 : decode prog_2_method_1_code 42 = .ok (.dup, 1) := by decide +kernel
theorem dc_Cut_init_43 : decode prog_2_method_1_code 43 = .ok (.bipush 120, 2) := by decide +kernel
theorem dc_Cut_init_45 : decode prog_2_method_1_code 45 = .ok (.invokespecial 11, 3) := by decide +kernel
theorem dc_Cut_init_48 : decode prog_2_method_1_code 48 = .ok (.putfield 27, 3) := by decide +kernel
theorem dc_Cut_init_51 : decode prog_2_method_1_code 51 = .ok (.iconst 0, 1) := by decide +kernel
theorem dc_Cut_init_52 : decode prog_2_method_1_code 52 = .ok (.istore_n 1, 1) := by decide +kernel
theorem dc_Cut_init_53 : decode prog_2_method_1_code 53 = .ok (.iload_n 1, 1) := by decide +kernel
theorem dc_Cut_init_54 : decode prog_2_method_1_code 54 = .ok (.bipush 30, 2) := by decide +kernel
theorem dc_Cut_init_56 : decode prog_2_method_1_code 56 = .ok (.if_icmp .ge 24, 3) := by decide +kernel
theorem dc_Cut_init_59 : decode prog_2_method_1_code 59 = .ok (.aload_n 0, 1) := by decide +kernel
theorem dc_Cut_init_60 : decode prog_2_method_1_code 60 = .ok (.getfield 20, 3) := by decide +kernel
theorem dc_Cut_init_63 : decode prog_2_method_1_code 63 = .ok (.iload_n 1, 1) := by decide +kernel
theorem dc_Cut_init_64 : decode prog_2_method_1_code 64 = .ok (.new 9, 3) := by decide +kernel
theorem dc_Cut_init_67 : decode prog_2_method_1_code 67 = .ok (.dup, 1) := by decide +kernel
theorem dc_Cut_init_68 : decode prog_2_method_1_code 68 = .ok (.bipush 120, 2) := by decide +kernel
theorem dc_Cut_init_70 : decode prog_2_method_1_code 70 = .ok (.invokespecial 11, 3) := by decide +kernel
theorem dc_Cut_init_73 : decode prog_2_method_1_code 73 = .ok (.aastore, 1) := by decide +kernel
theorem dc_Cut_init_74 : decode prog_2_method_1_code 74 = .ok (.iinc 1 1, 3) := by decide +kernel
theorem dc_Cut_init_77 : decode prog_2_method_1_code 77 = .ok (.goto (-24), 3) := by decide +kernel
theorem dc_Cut_init_80 : decode prog_2_method_1_code 80 = .ok (.return_, 1) := by decide +kernel
theorem dc_Cut_begin_0 : decode prog_2_method_2_code 0 = .ok (.aload_n 0, 1) := by decide +kernel
theorem dc_Cut_begin_1 : decode prog_2_method_2_code 1 = .ok (.getfield 14, 3) := by decide +kernel
theorem dc_Cut_begin_4 : decode prog_2_method_2_code 4 = .ok (.aload_n 1, 1) := by decide +kernel
theorem dc_Cut_begin_5 : decode prog_2_method_2_code 5 = .ok (.invokevirtual 30, 3) := by decide +kernel
theorem dc_Cut_begin_8 : decode prog_2_method_2_code 8 = .ok (.aload_n 0, 1) := by decide +kernel
theorem dc_Cut_begin_9 : decode prog_2_method_2_code 9 = .ok (.iload_n 2, 1) := by decide +kernel
theorem dc_Cut_begin_10 : decode prog_2_method_2_code 10 = .ok (.invokevirtual 34, 3) := by decide +kernel
theorem dc_Cut_begin_13 : decode prog_2_method_2_code 13 = .ok (.return_, 1) := by decide +kernel
theorem dc_Cut_cut_0 : decode prog_2_method_3_code 0 = .ok (.aload_n 0, 1) := by decide +kernel
theorem dc_Cut_cut_1 : decode prog_2_method_3_code 1 = .ok (.iconst 0, 1) := by decide +kernel
theorem dc_Cut_cut_2 : decode prog_2_method_3_code 2 = .ok (.putfield 37, 3) := by decide +kernel
theorem dc_Cut_cut_5 : decode prog_2_method_3_code 5 = .ok (.iload_n 1, 1) := by decide +kernel
theorem dc_Cut_cut_6 : decode prog_2_method_3_code 6 = .ok (.bipush 32, 2) := by decide +kernel
theorem dc_Cut_cut_8 : decode prog_2_method_3_code 8 = .ok (.if_icmp .eq 17, 3) := by decide +kernel
theorem dc_Cut_cut_11 : decode prog_2_method_3_code 11 = .ok (.aload_n 0, 1) := by decide +kernel
theorem dc_Cut_cut_12 : decode prog_2_method_3_code 12 = .ok (.getfield 14, 3) := by decide +kernel
theorem dc_Cut_cut_15 : decode prog_2_method_3_code 15 = .ok (.getfield 41, 3) := by decide +kernel
theorem dc_Cut_cut_18 : decode prog_2_method_3_code 18 = .ok (.ifCond .le 7, 3) := by decide +kernel
theorem dc_Cut_cut_21 : decode prog_2_method_3_code 21 = .ok (.iconst 1, 1) := by decide +kernel
theorem dc_Cut_cut_22 : decode prog_2_method_3_code 22 = .ok (.goto 4, 3) := by decide +kernel
theorem dc_Cut_cut_25 : decode prog_2_method_3_code 25 = .ok (.iconst 0, 1) := by decide +kernel
theorem dc_Cut_cut_26 : decode prog_2_method_3_code 26 = .ok (.istore_n 2, 1) := by decide +kernel
theorem dc_Cut_cut_27 : decode prog_2_method_3_code 27 = .ok (.iconst 0, 1) := by decide +kernel
theorem dc_Cut_cut_28 : decode prog_2_method_3_code 28 = .ok (.istore_n 3, 1) := by decide +kernel
theorem dc_Cut_cut_29 : decode prog_2_method_3_code 29 = .ok (.iconst 0, 1) := by decide +kernel
theorem dc_Cut_cut_30 : decode prog_2_method_3_code 30 = .ok (.istore 4, 2) := by decide +kernel
theorem dc_Cut_cut_32 : decode prog_2_method_3_code 32 = .ok (.iload 4, 2) := by decide +kernel
theorem dc_Cut_cut_34 : decode prog_2_method_3_code 34 = .ok (.aload_n 0, 1) := by decide +kernel
theorem dc_Cut_cut_35 : decode prog_2_method_3_code 35 = .ok (.getfield 14, 3) := by decide +kernel
theorem dc_Cut_cut_38 : decode prog_2_method_3_code 38 = .ok (.getfield 41, 3) := by decide +kernel
theorem dc_Cut_cut_41 : decode prog_2_method_3_code 41 = .ok (.if_icmp .gt 57, 3) := by decide +kernel
theorem dc_Cut_cut_44 : decode prog_2_method_3_code 44 = .ok (.iload 4, 2) := by decide +kernel
theorem dc_Cut_cut_46 : decode prog_2_method_3_code 46 = .ok (.aload_n 0, 1) := by decide +kernel
theorem dc_Cut_cut_47 : decode prog_2_method_3_code 47 = .ok (.getfield 14, 3) := by decide +kernel
theorem dc_Cut_cut_50 : decode prog_2_method_3_code 50 = .ok (.getfield 41, 3) := by decide +kernel
theorem dc_Cut_cut_53 : decode prog_2_method_3_code 53 = .ok (.if_icmp .eq 17, 3) := by decide +kernel
theorem dc_Cut_cut_56 : decode prog_2_method_3_code 56 = .ok (.aload_n 0, 1) := by decide +kernel
theorem dc_Cut_cut_57 : decode prog_2_method_3_code 57 = .ok (.getfield 14, 3) := by decide +kernel
theorem dc_Cut_cut_60 : decode prog_2_method_3_code 60 = .ok (.getfield 44, 3) := by decide +kernel
theorem dc_Cut_cut_63 : decode prog_2_method_3_code 63 = .ok (.iload 4, 2) := by decide +kernel
theorem dc_Cut_cut_65 : decode prog_2_method_3_code 65 = .ok (.iaload, 1) := by decide +kernel
theorem dc_Cut_cut_66 : decode prog_2_method_3_code 66 = .ok (.iload_n 1, 1) := by decide +kernel
theorem dc_Cut_cut_67 : decode prog_2_method_3_code 67 = .ok (.if_icmp .ne 25, 3) := by decide +kernel
theorem dc_Cut_cut_70 : decode prog_2_method_3_code 70 = .ok (.iload 4, 2) := by decide +kernel
theorem dc_Cut_cut_72 : decode prog_2_method_3_code 72 = .ok (.iload_n 3, 1) := by decide +kernel
theorem dc_Cut_cut_73 : decode prog_2_method_3_code 73 = .ok (.if_icmp .gt 7, 3) := by decide +kernel
theorem dc_Cut_cut_76 : decode prog_2_method_3_code 76 = .ok (.iload_n 2, 1) := by decide +kernel
theorem dc_Cut_cut_77 : decode prog_2_method_3_code 77 = .ok (.ifCond .eq 10, 3) := by decide +kernel
theorem dc_Cut_cut_80 : decode prog_2_method_3_code 80 = .ok (.aload_n 0, 1) := by decide +kernel
theorem dc_Cut_cut_81 : decode prog_2_method_3_code 81 = .ok (.iload_n 3, 1) := by decide +kernel
theorem dc_Cut_cut_82 : decode prog_2_method_3_code 82 = .ok (.iload 4, 2) := by decide +kernel
theorem dc_Cut_cut_84 : decode prog_2_method_3_code 84 = .ok (.invokevirtual 48, 3) := by decide +kernel
theorem dc_Cut_cut_87 : decode prog_2_method_3_code 87 = .ok (.iload 4, 2) := by decide +kernel
theorem dc_Cut_cut_89 : decode prog_2_method_3_code 89 = .ok (.iconst 1, 1) := by decide +kernel
theorem dc_Cut_cut_90 : decode prog_2_method_3_code 90 = .ok (.iadd, 1) := by decide +kernel
theorem dc_Cut_cut_91 : decode prog_2_method_3_code 91 = .ok (.istore_n 3, 1) := by decide +kernel
theorem dc_Cut_cut_92 : decode prog_2_method_3_code 92 = .ok (.iinc 4 1, 3) := by decide +kernel
theorem dc_Cut_cut_95 : decode prog_2_method_3_code 95 = .ok (.goto (-63), 3) := by decide +kernel
theorem dc_Cut_cut_98 : decode prog_2_method_3_code 98 = .ok (.return_, 1) := by decide +kernel
theorem dc_Cut_addField_0 : decode prog_2_method_4_code 0 = .ok (.aload_n 0, 1) := by decide +kernel
theorem dc_Cut_addField_1 : decode prog_2_method_4_code 1 = .ok (.getfield 37, 3) := by decide +kernel
theorem dc_Cut_addField_4 : decode prog_2_method_4_code 4 = .ok (.bipush 30, 2) := by decide +kernel
theorem dc_Cut_addField_6 : decode prog_2_method_4_code 6 = .ok (.if_icmp .ge 43, 3) := by decide +kernel
theorem dc_Cut_addField_9 : decode prog_2_method_4_code 9 = .ok (.aload_n 0, 1) := by decide +kernel
theorem dc_Cut_addField_10 : decode prog_2_method_4_code 10 = .ok (.getfield 20, 3) := by decide +kernel
theorem dc_Cut_addField_13 : decode prog_2_method_4_code 13 = .ok (.aload_n 0, 1) := by decide +kernel
theorem dc_Cut_addField_14 : decode prog_2_method_4_code 14 = .ok (.getfield 37, 3) := by decide +kernel
theorem dc_Cut_addField_17 : decode prog_2_method_4_code 17 = .ok (.aaload, 1) := by decide +kernel
theorem dc_Cut_addField_18 : decode prog_2_method_4_code 18 = .ok (.invokevirtual 52, 3) := by decide +kernel
theorem dc_Cut_addField_21 : decode prog_2_method_4_code 21 = .ok (.aload_n 0, 1) := by decide +kernel
theorem dc_Cut_addField_22 : decode prog_2_method_4_code 22 = .ok (.getfield 20, 3) := by decide +kernel
theorem dc_Cut_addField_25 : decode prog_2_method_4_code 25 = .ok (.aload_n 0, 1) := by decide +kernel
theorem dc_Cut_addField_26 : decode prog_2_method_4_code 26 = .ok (.getfield 37, 3) := by decide +kernel
theorem dc_Cut_addField_29 : decode prog_2_method_4_code 29 = .ok (.aaload, 1) := by decide +kernel
theorem dc_Cut_addField_30 : decode prog_2_method_4_code 30 = .ok (.aload_n 0, 1) := by decide +kernel
theorem dc_Cut_addField_31 : decode prog_2_method_4_code 31 = .ok (.getfield 14, 3) := by decide +kernel
theorem dc_Cut_addField_34 : decode prog_2_method_4_code 34 = .ok (.iload_n 1, 1) := by decide +kernel
theorem dc_Cut_addField_35 : decode prog_2_method_4_code 35 = .ok (.iload_n 2, 1) := by decide +kernel
theorem dc_Cut_addField_36 : decode prog_2_method_4_code 36 = .ok (.invokevirtual 55, 3) := by decide +kernel
theorem dc_Cut_addField_39 : decode prog_2_method_4_code 39 = .ok (.aload_n 0, 1) := by decide +kernel
theorem dc_Cut_addField_40 : decode prog_2_method_4_code 40 = .ok (.dup, 1) := by decide +kernel
theorem dc_Cut_addField_41 : decode prog_2_method_4_code 41 = .ok (.getfield 37, 3) := by decide +kernel
theorem dc_Cut_addField_44 : decode prog_2_method_4_code 44 = .ok (.iconst 1, 1) := by decide +kernel
theorem dc_Cut_addField_45 : decode prog_2_method_4_code 45 = .ok (.iadd, 1) := by decide +kernel
theorem dc_Cut_addField_46 : decode prog_2_method_4_code 46 = .ok (.putfield 37, 3) := by decide +kernel
theorem dc_Cut_addField_49 : decode prog_2_method_4_code 49 = .ok (.return_, 1) := by decide +kernel
theorem dc_Cut_fieldText_0 : decode prog_2_method_5_code 0 = .ok (.iload_n 1, 1) := by decide +kernel
theorem dc_Cut_fieldText_1 : decode prog_2_method_5_code 1 = .ok (.iconst 1, 1) := by decide +kernel
theorem dc_Cut_fieldText_2 : decode prog_2_method_5_code 2 = .ok (.if_icmp .lt 22, 3) := by decide +kernel
theorem dc_Cut_fieldText_5 : decode prog_2_method_5_code 5 = .ok (.iload_n 1, 1) := by decide +kernel
theorem dc_Cut_fieldText_6 : decode prog_2_method_5_code 6 = .ok (.aload_n 0, 1) := by decide +kernel
theorem dc_Cut_fieldText_7 : decode prog_2_method_5_code 7 = .ok (.getfield 37, 3) := by decide +kernel
theorem dc_Cut_fieldText_10 : decode prog_2_method_5_code 10 = .ok (.if_icmp .gt 14, 3) := by decide +kernel
theorem dc_Cut_fieldText_13 : decode prog_2_method_5_code 13 = .ok (.aload_n 0, 1) := by decide +kernel
theorem dc_Cut_fieldText_14 : decode prog_2_method_5_code 14 = .ok (.getfield 20, 3) := by decide +kernel
theorem dc_Cut_fieldText_17 : decode prog_2_method_5_code 17 = .ok (.iload_n 1, 1) := by decide +kernel
theorem dc_Cut_fieldText_18 : decode prog_2_method_5_code 18 = .ok (.iconst 1, 1) := by decide +kernel
theorem dc_Cut_fieldText_19 : decode prog_2_method_5_code 19 = .ok (.isub, 1) := by decide +kernel
theorem dc_Cut_fieldText_20 : decode prog_2_method_5_code 20 = .ok (.aaload, 1) := by decide +kernel
theorem dc_Cut_fieldText_21 : decode prog_2_method_5_code 21 = .ok (.goto 7, 3) := by decide +kernel
theorem dc_Cut_fieldText_24 : decode prog_2_method_5_code 24 = .ok (.aload_n 0, 1) := by decide +kernel
theorem dc_Cut_fieldText_25 : decode prog_2_method_5_code 25 = .ok (.getfield 24, 3) := by decide +kernel
theorem dc_Cut_fieldText_28 : decode prog_2_method_5_code 28 = .ok (.areturn, 1) := by decide +kernel
theorem dc_Cut_setField_0 : decode prog_2_method_6_code 0 = .ok (.aload_n 0, 1) := by decide +kernel
theorem dc_Cut_setField_1 : decode prog_2_method_6_code 1 = .ok (.getfield 37, 3) := by decide +kernel
theorem dc_Cut_setField_4 : decode prog_2_method_6_code 4 = .ok (.istore 4, 2) := by decide +kernel
theorem dc_Cut_setField_6 : decode prog_2_method_6_code 6 = .ok (.iload 4, 2) := by decide +kernel
theorem dc_Cut_setField_8 : decode prog_2_method_6_code 8 = .ok (.iload_n 1, 1) := by decide +kernel
theorem dc_Cut_setField_9 : decode prog_2_method_6_code 9 = .ok (.if_icmp .ge 36, 3) := by decide +kernel
theorem dc_Cut_setField_12 : decode prog_2_method_6_code 12 = .ok (.iload 4, 2) := by decide +kernel
theorem dc_Cut_setField_14 : decode prog_2_method_6_code 14 = .ok (.bipush 30, 2) := by decide +kernel
theorem dc_Cut_setField_16 : decode prog_2_method_6_code 16 = .ok (.if_icmp .ge 29, 3) := by decide +kernel
theorem dc_Cut_setField_19 : decode prog_2_method_6_code 19 = .ok (.aload_n 0, 1) := by decide +kernel
theorem dc_Cut_setField_20 : decode prog_2_method_6_code 20 = .ok (.getfield 20, 3) := by decide +kernel
theorem dc_Cut_setField_23 : decode prog_2_method_6_code 23 = .ok (.iload 4, 2) := by decide +kernel
theorem dc_Cut_setField_25 : decode prog_2_method_6_code 25 = .ok (.aaload, 1) := by decide +kernel
theorem dc_Cut_setField_26 : decode prog_2_method_6_code 26 = .ok (.invokevirtual 52, 3) := by decide +kernel
theorem dc_Cut_setField_29 : decode prog_2_method_6_code 29 = .ok (.aload_n 0, 1) := by decide +kernel
theorem dc_Cut_setField_30 : decode prog_2_method_6_code 30 = .ok (.dup, 1) := by decide +kernel
theorem dc_Cut_setField_31 : decode prog_2_method_6_code 31 = .ok (.getfield 37, 3) := by decide +kernel
theorem dc_Cut_setField_34 : decode prog_2_method_6_code 34 = .ok (.iconst 1, 1) := by decide +kernel
theorem dc_Cut_setField_35 : decode prog_2_method_6_code 35 = .ok (.iadd, 1) := by decide +kernel
theorem dc_Cut_setField_36 : decode prog_2_method_6_code 36 = .ok (.putfield 37, 3) := by decide +kernel
theorem dc_Cut_setField_39 : decode prog_2_method_6_code 39 = .ok (.iinc 4 1, 3) := by decide +kernel
theorem dc_Cut_setField_42 : decode prog_2_method_6_code 42 = .ok (.goto (-36), 3) := by decide +kernel
theorem dc_Cut_setField_45 : decode prog_2_method_6_code 45 = .ok (.aload_n 0, 1) := by decide +kernel
theorem dc_Cut_setField_46 : decode prog_2_method_6_code 46 = .ok (.iload_n 1, 1) := by decide +kernel
theorem dc_Cut_setField_47 : decode prog_2_method_6_code 47 = .ok (.invokevirtual 59, 3) := by decide +kernel
theorem dc_Cut_setField_50 : decode prog_2_method_6_code 50 = .ok (.aload_n 2, 1) := by decide +kernel
theorem dc_Cut_setField_51 : decode prog_2_method_6_code 51 = .ok (.invokevirtual 30, 3) := by decide +kernel
theorem dc_Cut_setField_54 : decode prog_2_method_6_code 54 = .ok (.aload_n 0, 1) := by decide +kernel
theorem dc_Cut_setField_55 : decode prog_2_method_6_code 55 = .ok (.iload_n 3, 1) := by decide +kernel
theorem dc_Cut_setField_56 : decode prog_2_method_6_code 56 = .ok (.invokevirtual 63, 3) := by decide +kernel
theorem dc_Cut_setField_59 : decode prog_2_method_6_code 59 = .ok (.return_, 1) := by decide +kernel
theorem dc_Cut_join_0 : decode prog_2_method_7_code 0 = .ok (.aload_n 0, 1) := by decide +kernel
theorem dc_Cut_join_1 : decode prog_2_method_7_code 1 = .ok (.getfield 14, 3) := by decide +kernel
theorem dc_Cut_join_4 : decode prog_2_method_7_code 4 = .ok (.invokevirtual 52, 3) := by decide +kernel
theorem dc_Cut_join_7 : decode prog_2_method_7_code 7 = .ok (.iconst 0, 1) := by decide +kernel
theorem dc_Cut_join_8 : decode prog_2_method_7_code 8 = .ok (.istore_n 2, 1) := by decide +kernel
theorem dc_Cut_join_9 : decode prog_2_method_7_code 9 = .ok (.iload_n 2, 1) := by decide +kernel
theorem dc_Cut_join_10 : decode prog_2_method_7_code 10 = .ok (.aload_n 0, 1) := by decide +kernel
theorem dc_Cut_join_11 : decode prog_2_method_7_code 11 = .ok (.getfield 37, 3) := by decide +kernel
theorem dc_Cut_join_14 : decode prog_2_method_7_code 14 = .ok (.if_icmp .ge 34, 3) := by decide +kernel
theorem dc_Cut_join_17 : decode prog_2_method_7_code 17 = .ok (.iload_n 2, 1) := by decide +kernel
theorem dc_Cut_join_18 : decode prog_2_method_7_code 18 = .ok (.ifCond .le 11, 3) := by decide +kernel
theorem dc_Cut_join_21 : decode prog_2_method_7_code 21 = .ok (.aload_n 0, 1) := by decide +kernel
theorem dc_Cut_join_22 : decode prog_2_method_7_code 22 = .ok (.getfield 14, 3) := by decide +kernel
theorem dc_Cut_join_25 : decode prog_2_method_7_code 25 = .ok (.iload_n 1, 1) := by decide +kernel
theorem dc_Cut_join_26 : decode prog_2_method_7_code 26 = .ok (.invokevirtual 66, 3) := by decide +kernel
theorem dc_Cut_join_29 : decode prog_2_method_7_code 29 = .ok (.aload_n 0, 1) := by decide +kernel
theorem dc_Cut_join_30 : decode prog_2_method_7_code 30 = .ok (.getfield 14, 3) := by decide +kernel
theorem dc_Cut_join_33 : decode prog_2_method_7_code 33 = .ok (.aload_n 0, 1) := by decide +kernel
theorem dc_Cut_join_34 : decode prog_2_method_7_code 34 = .ok (.getfield 20, 3) := by decide +kernel
theorem dc_Cut_join_37 : decode prog_2_method_7_code 37 = .ok (.iload_n 2, 1) := by decide +kernel
theorem dc_Cut_join_38 : decode prog_2_method_7_code 38 = .ok (.aaload, 1) := by decide +kernel
theorem dc_Cut_join_39 : decode prog_2_method_7_code 39 = .ok (.invokevirtual 69, 3) := by decide +kernel
theorem dc_Cut_join_42 : decode prog_2_method_7_code 42 = .ok (.iinc 2 1, 3) := by decide +kernel
theorem dc_Cut_join_45 : decode prog_2_method_7_code 45 = .ok (.goto (-36), 3) := by decide +kernel
theorem dc_Cut_join_48 : decode prog_2_method_7_code 48 = .ok (.return_, 1) := by decide +kernel
theorem dc_Cut_replace_0 : decode prog_2_method_8_code 0 = .ok (.aload_n 0, 1) := by decide +kernel
theorem dc_Cut_replace_1 : decode prog_2_method_8_code 1 = .ok (.getfield 27, 3) := by decide +kernel
theorem dc_Cut_replace_4 : decode prog_2_method_8_code 4 = .ok (.invokevirtual 52, 3) := by decide +kernel
theorem dc_Cut_replace_7 : decode prog_2_method_8_code 7 = .ok (.iconst 0, 1) := by decide +kernel
theorem dc_Cut_replace_8 : decode prog_2_method_8_code 8 = .ok (.istore 4, 2) := by decide +kernel
theorem dc_Cut_replace_10 : decode prog_2_method_8_code 10 = .ok (.aload_n 1, 1) := by decide +kernel
theorem dc_Cut_replace_11 : decode prog_2_method_8_code 11 = .ok (.aload_n 0, 1) := by decide +kernel
theorem dc_Cut_replace_12 : decode prog_2_method_8_code 12 = .ok (.getfield 14, 3) := by decide +kernel
theorem dc_Cut_replace_15 : decode prog_2_method_8_code 15 = .ok (.iconst 0, 1) := by decide +kernel
theorem dc_Cut_replace_16 : decode prog_2_method_8_code 16 = .ok (.invokevirtual 72, 3) := by decide +kernel
theorem dc_Cut_replace_19 : decode prog_2_method_8_code 19 = .ok (.istore 5, 2) := by decide +kernel
theorem dc_Cut_replace_21 : decode prog_2_method_8_code 21 = .ok (.iconst 0, 1) := by decide +kernel
theorem dc_Cut_replace_22 : decode prog_2_method_8_code 22 = .ok (.istore 6, 2) := by decide +kernel
theorem dc_Cut_replace_24 : decode prog_2_method_8_code 24 = .ok (.iload 6, 2) := by decide +kernel
theorem dc_Cut_replace_26 : decode prog_2_method_8_code 26 = .ok (.iload_n 3, 1) := by decide +kernel
theorem dc_Cut_replace_27 : decode prog_2_method_8_code 27 = .ok (.if_icmp .ge 59, 3) := by decide +kernel
theorem dc_Cut_replace_30 : decode prog_2_method_8_code 30 = .ok (.iload 5, 2) := by decide +kernel
theorem dc_Cut_replace_32 : decode prog_2_method_8_code 32 = .ok (.iconst (-1), 1) := by decide +kernel
theorem dc_Cut_replace_33 : decode prog_2_method_8_code 33 = .ok (.if_icmp .eq 53, 3) := by decide +kernel
theorem dc_Cut_replace_36 : decode prog_2_method_8_code 36 = .ok (.aload_n 0, 1) := by decide +kernel
theorem dc_Cut_replace_37 : decode prog_2_method_8_code 37 = .ok (.getfield 27, 3) := by decide +kernel
theorem dc_Cut_replace_40 : decode prog_2_method_8_code 40 = .ok (.aload_n 0, 1) := by decide +kernel
theorem dc_Cut_replace_41 : decode prog_2_method_8_code 41 = .ok (.getfield 14, 3) := by decide +kernel
theorem dc_Cut_replace_44 : decode prog_2_method_8_code 44 = .ok (.iload 4, 2) := by decide +kernel
theorem dc_Cut_replace_46 : decode prog_2_method_8_code 46 = .ok (.iload 5, 2) := by decide +kernel
theorem dc_Cut_replace_48 : decode prog_2_method_8_code 48 = .ok (.invokevirtual 55, 3) := by decide +kernel
theorem dc_Cut_replace_51 : decode prog_2_method_8_code 51 = .ok (.aload_n 0, 1) := by decide +kernel
theorem dc_Cut_replace_52 : decode prog_2_method_8_code 52 = .ok (.getfield 27, 3) := by decide +kernel
theorem dc_Cut_replace_55 : decode prog_2_method_8_code 55 = .ok (.aload_n 2, 1) := by decide +kernel
theorem dc_Cut_replace_56 : decode prog_2_method_8_code 56 = .ok (.invokevirtual 69, 3) := by decide +kernel
theorem dc_Cut_replace_59 : decode prog_2_method_8_code 59 = .ok (.aload_n 1, 1) := by decide +kernel
theorem dc_Cut_replace_60 : decode prog_2_method_8_code 60 = .ok (.aload_n 0, 1) := by decide +kernel
theorem dc_Cut_replace_61 : decode prog_2_method_8_code 61 = .ok (.getfield 14, 3) := by decide +kernel
theorem dc_Cut_replace_64 : decode prog_2_method_8_code 64 = .ok (.iload 5, 2) := by decide +kernel
theorem dc_Cut_replace_66 : decode prog_2_method_8_code 66 = .ok (.invokevirtual 78, 3) := by decide +kernel
theorem dc_Cut_replace_69 : decode prog_2_method_8_code 69 = .ok (.istore 4, 2) := by decide +kernel
theorem dc_Cut_replace_71 : decode prog_2_method_8_code 71 = .ok (.aload_n 0, 1) := by decide +kernel
theorem dc_Cut_replace_72 : decode prog_2_method_8_code 72 = .ok (.aload_n 1, 1) := by decide +kernel
theorem dc_Cut_replace_73 : decode prog_2_method_8_code 73 = .ok (.iload 4, 2) := by decide +kernel
theorem dc_Cut_replace_75 : decode prog_2_method_8_code 75 = .ok (.invokevirtual 81, 3) := by decide +kernel
theorem dc_Cut_replace_78 : decode prog_2_method_8_code 78 = .ok (.istore 5, 2) := by decide +kernel
theorem dc_Cut_replace_80 : decode prog_2_method_8_code 80 = .ok (.iinc 6 1, 3) := by decide +kernel
theorem dc_Cut_replace_83 : decode prog_2_method_8_code 83 = .ok (.goto (-59), 3) := by decide +kernel
theorem dc_Cut_replace_86 : decode prog_2_method_8_code 86 = .ok (.aload_n 0, 1) := by decide +kernel
theorem dc_Cut_replace_87 : decode prog_2_method_8_code 87 = .ok (.getfield 27, 3) := by decide +kernel
theorem dc_Cut_replace_90 : decode prog_2_method_8_code 90 = .ok (.aload_n 0, 1) := by decide +kernel
theorem dc_Cut_replace_91 : decode prog_2_method_8_code 91 = .ok (.getfield 14, 3) := by decide +kernel
theorem dc_Cut_replace_94 : decode prog_2_method_8_code 94 = .ok (.iload 4, 2) := by decide +kernel
theorem dc_Cut_replace_96 : decode prog_2_method_8_code 96 = .ok (.aload_n 0, 1) := by decide +kernel
theorem dc_Cut_replace_97 : decode prog_2_method_8_code 97 = .ok (.getfield 14, 3) := by decide +kernel
theorem dc_Cut_replace_100 : decode prog_2_method_8_code 100 = .ok (.getfield 41, 3) := by decide +kernel
theorem dc_Cut_replace_103 : decode prog_2_method_8_code 103 = .ok (.invokevirtual 55, 3) := by decide +kernel
theorem dc_Cut_replace_106 : decode prog_2_method_8_code 106 = .ok (.aload_n 0, 1) := by decide +kernel
theorem dc_Cut_replace_107 : decode prog_2_method_8_code 107 = .ok (.getfield 14, 3) := by decide +kernel
theorem dc_Cut_replace_110 : decode prog_2_method_8_code 110 = .ok (.aload_n 0, 1) := by decide +kernel
theorem dc_Cut_replace_111 : decode prog_2_method_8_code 111 = .ok (.getfield 27, 3) := by decide +kernel
theorem dc_Cut_replace_114 : decode prog_2_method_8_code 114 = .ok (.invokevirtual 30, 3) := by decide +kernel
theorem dc_Cut_replace_117 : decode prog_2_method_8_code 117 = .ok (.return_, 1) := by decide +kernel
theorem dc_Cut_matchBehind_0 : decode prog_2_method_9_code 0 = .ok (.aload_n 1, 1) := by decide +kernel
theorem dc_Cut_matchBehind_1 : decode prog_2_method_9_code 1 = .ok (.aload_n 0, 1) := by decide +kernel
theorem dc_Cut_matchBehind_2 : decode prog_2_method_9_code 2 = .ok (.getfield 14, 3) := by decide +kernel
theorem dc_Cut_matchBehind_5 : decode prog_2_method_9_code 5 = .ok (.iload_n 2, 1) := by decide +kernel
theorem dc_Cut_matchBehind_6 : decode prog_2_method_9_code 6 = .ok (.invokevirtual 72, 3) := by decide +kernel
theorem dc_Cut_matchBehind_9 : decode prog_2_method_9_code 9 = .ok (.istore_n 3, 1) := by decide +kernel
theorem dc_Cut_matchBehind_10 : decode prog_2_method_9_code 10 = .ok (.iload_n 3, 1) := by decide +kernel
theorem dc_Cut_matchBehind_11 : decode prog_2_method_9_code 11 = .ok (.iload_n 2, 1) := by decide +kernel
theorem dc_Cut_matchBehind_12 : decode prog_2_method_9_code 12 = .ok (.if_icmp .ne 28, 3) := by decide +kernel
theorem dc_Cut_matchBehind_15 : decode prog_2_method_9_code 15 = .ok (.aload_n 1, 1) := by decide +kernel
theorem dc_Cut_matchBehind_16 : decode prog_2_method_9_code 16 = .ok (.aload_n 0, 1) := by decide +kernel
theorem dc_Cut_matchBehind_17 : decode prog_2_method_9_code 17 = .ok (.getfield 14, 3) := by decide +kernel
theorem dc_Cut_matchBehind_20 : decode prog_2_method_9_code 20 = .ok (.iload_n 3, 1) := by decide +kernel
theorem dc_Cut_matchBehind_21 : decode prog_2_method_9_code 21 = .ok (.invokevirtual 78, 3) := by decide +kernel
theorem dc_Cut_matchBehind_24 : decode prog_2_method_9_code 24 = .ok (.iload_n 2, 1) := by decide +kernel
theorem dc_Cut_matchBehind_25 : decode prog_2_method_9_code 25 = .ok (.if_icmp .ne 15, 3) := by decide +kernel
theorem dc_Cut_matchBehind_28 : decode prog_2_method_9_code 28 = .ok (.aload_n 1, 1) := by decide +kernel
theorem dc_Cut_matchBehind_29 : decode prog_2_method_9_code 29 = .ok (.aload_n 0, 1) := by decide +kernel
theorem dc_Cut_matchBehind_30 : decode prog_2_method_9_code 30 = .ok (.getfield 14, 3) := by decide +kernel
theorem dc_Cut_matchBehind_33 : decode prog_2_method_9_code 33 = .ok (.iload_n 2, 1) := by decide +kernel
theorem dc_Cut_matchBehind_34 : decode prog_2_method_9_code 34 = .ok (.iconst 1, 1) := by decide +kernel
theorem dc_Cut_matchBehind_35 : decode prog_2_method_9_code 35 = .ok (.iadd, 1) := by decide +kernel
theorem dc_Cut_matchBehind_36 : decode prog_2_method_9_code 36 = .ok (.invokevirtual 72, 3) := by decide +kernel
theorem dc_Cut_matchBehind_39 : decode prog_2_method_9_code 39 = .ok (.ireturn, 1) := by decide +kernel
theorem dc_Cut_matchBehind_40 : decode prog_2_method_9_code 40 = .ok (.iload_n 3, 1) := by decide +kernel
theorem dc_Cut_matchBehind_41 : decode prog_2_method_9_code 41 = .ok (.ireturn, 1) := by decide +kernel
theorem dc_Exp_init_0 : decode prog_3_method_1_code 0 = .ok (.aload_n 0, 1) := by decide +kernel
theorem dc_Exp_init_1 : decode prog_3_method_1_code 1 = .ok (.invokespecial 3, 3) := by decide +kernel
theorem dc_Exp_init_4 : decode prog_3_method_1_code 4 = .ok (.aload_n 0, 1) := by decide +kernel
theorem dc_Exp_init_5 : decode prog_3_method_1_code 5 = .ok (.sipush 256, 3) := by decide +kernel
theorem dc_Exp_init_8 : decode prog_3_method_1_code 8 = .ok (.newarray .long, 2) := by decide +kernel
theorem dc_Exp_init_10 : decode prog_3_method_1_code 10 = .ok (.putfield 9, 3) := by decide +kernel
theorem dc_Exp_init_13 : decode prog_3_method_1_code 13 = .ok (.aload_n 0, 1) := by decide +kernel
theorem dc_Exp_init_14 : decode prog_3_method_1_code 14 = .ok (.bipush 60, 2) := by decide +kernel
theorem dc_Exp_init_16 : decode prog_3_method_1_code 16 = .ok (.newarray .long, 2) := by decide +kernel
theorem dc_Exp_init_18 : decode prog_3_method_1_code 18 = .ok (.putfield 15, 3) := by decide +kernel
theorem dc_Exp_init_21 : decode prog_3_method_1_code 21 = .ok (.aload_n 0, 1) := by decide +kernel
theorem dc_Exp_init_22 : decode prog_3_method_1_code 22 = .ok (.iconst 4, 1) := by decide +kernel
theorem dc_Exp_init_23 : decode prog_3_method_1_code 23 = .ok (.newarray .long, 2) := by decide +kernel
theorem dc_Exp_init_25 : decode prog_3_method_1_code 25 = .ok (.putfield 18, 3) := by decide +kernel
theorem dc_Exp_init_28 : decode prog_3_method_1_code 28 = .ok (.aload_n 0, 1) := by decide +kernel
theorem dc_Exp_init_29 : decode prog_3_method_1_code 29 = .ok (.iconst 4, 1) := by decide +kernel
theorem dc_Exp_init_30 : decode prog_3_method_1_code 30 = .ok (.newarray .long, 2) := by decide +kernel
theorem dc_Exp_init_32 : decode prog_3_method_1_code 32 = .ok (.putfield 21, 3) := by decide +kernel
theorem dc_Exp_init_35 : decode prog_3_method_1_code 35 = .ok (.aload_n 0, 1) := by decide +kernel
theorem dc_Exp_init_36 : decode prog_3_method_1_code 36 = .ok (.iconst 4, 1) := by decide +kernel
theorem dc_Exp_init_37 : decode prog_3_method_1_code 37 = .ok (.newarray .boolean, 2) := by decide +kernel
theorem dc_Exp_init_39 : decode prog_3_method_1_code 39 = .ok (.dup, 1) := by decide +kernel
theorem dc_Exp_init_40 : decode prog_3_method_1_code 40 = .ok (.iconst 0, 1) := by decide +kernel
theorem dc_Exp_init_41 : decode prog_3_method_1_code 41 = .ok (.iconst 1, 1) := by decide +kernel
theorem dc_Exp_init_42 : decode prog_3_method_1_code 42 = .ok (.bastore, 1) := by decide +kernel
theorem dc_Exp_init_43 : decode prog_3_method_1_code 43 = .ok (.dup, 1) := by decide +kernel
theorem dc_Exp_init_44 : decode prog_3_method_1_code 44 = .ok (.iconst 1, 1) := by decide +kernel
theorem dc_Exp_init_45 : decode prog_3_method_1_code 45 = .ok (.iconst 1, 1) := by decide +kernel
theorem dc_Exp_init_46 : decode prog_3_method_1_code 46 = .ok (.bastore, 1) := by decide +kernel
theorem dc_Exp_init_47 : decode prog_3_method_1_code 47 = .ok (.dup, 1) := by decide +kernel
theorem dc_Exp_init_48 : decode prog_3_method_1_code 48 = .ok (.iconst 2, 1) := by decide +kernel
theorem dc_Exp_init_49 : decode prog_3_method_1_code 49 = .ok (.iconst 1, 1) := by decide +kernel
theorem dc_Exp_init_50 : decode prog_3_method_1_code 50 = .ok (.bastore, 1) := by decide +kernel
theorem dc_Exp_init_51 : decode prog_3_method_1_code 51 = .ok (.dup, 1) := by decide +kernel
theorem dc_Exp_init_52 : decode prog_3_method_1_code 52 = .ok (.iconst 3, 1) := by decide +kernel
theorem dc_Exp_init_53 : decode prog_3_method_1_code 53 = .ok (.iconst 1, 1) := by decide +kernel
theorem dc_Exp_init_54 : decode prog_3_method_1_code 54 = .ok (.bastore, 1) := by decide +kernel
theorem dc_Exp_init_55 : decode prog_3_method_1_code 55 = .ok (.putfield 24, 3) := by decide +kernel
theorem dc_Exp_init_58 : decode prog_3_method_1_code 58 = .ok (.return_, 1) := by decide +kernel
theorem dc_Exp_drop_0 : decode prog_3_method_2_code 0 = .ok (.aload_n 0, 1) := by decide +kernel
theorem dc_Exp_drop_1 : decode prog_3_method_2_code 1 = .ok (.getfield 9, 3) := by decide +kernel
theorem dc_Exp_drop_4 : decode prog_3_method_2_code 4 = .ok (.lconst 0, 1) := by decide +kernel
theorem dc_Exp_drop_5 : decode prog_3_method_2_code 5 = .ok (.invokestatic 28, 3) := by decide +kernel
theorem dc_Exp_drop_8 : decode prog_3_method_2_code 8 = .ok (.aload_n 0, 1) := by decide +kernel
theorem dc_Exp_drop_9 : decode prog_3_method_2_code 9 = .ok (.getfield 15, 3) := by decide +kernel
theorem dc_Exp_drop_12 : decode prog_3_method_2_code 12 = .ok (.lconst 0, 1) := by decide +kernel
theorem dc_Exp_drop_13 : decode prog_3_method_2_code 13 = .ok (.invokestatic 28, 3) := by decide +kernel
theorem dc_Exp_drop_16 : decode prog_3_method_2_code 16 = .ok (.aload_n 0, 1) := by decide +kernel
theorem dc_Exp_drop_17 : decode prog_3_method_2_code 17 = .ok (.iconst 0, 1) := by decide +kernel
theorem dc_Exp_drop_18 : decode prog_3_method_2_code 18 = .ok (.putfield 34, 3) := by decide +kernel
theorem dc_Exp_drop_21 : decode prog_3_method_2_code 21 = .ok (.return_, 1) := by decide +kernel
theorem dc_Exp_firstFrom_0 : decode prog_3_method_3_code 0 = .ok (.iload_n 2, 1) := by decide +kernel
theorem dc_Exp_firstFrom_1 : decode prog_3_method_3_code 1 = .ok (.istore_n 3, 1) := by decide +kernel
theorem dc_Exp_firstFrom_2 : decode prog_3_method_3_code 2 = .ok (.iload_n 3, 1) := by decide +kernel
theorem dc_Exp_firstFrom_3 : decode prog_3_method_3_code 3 = .ok (.aload_n 1, 1) := by decide +kernel
theorem dc_Exp_firstFrom_4 : decode prog_3_method_3_code 4 = .ok (.getfield 38, 3) := by decide +kernel
theorem dc_Exp_firstFrom_7 : decode prog_3_method_3_code 7 = .ok (.if_icmp .gt 21, 3) := by decide +kernel
theorem dc_Exp_firstFrom_10 : decode prog_3_method_3_code 10 = .ok (.aload_n 0, 1) := by decide +kernel
theorem dc_Exp_firstFrom_11 : decode prog_3_method_3_code 11 = .ok (.aload_n 1, 1) := by decide +kernel
theorem dc_Exp_firstFrom_12 : decode prog_3_method_3_code 12 = .ok (.iload_n 3, 1) := by decide +kernel
theorem dc_Exp_firstFrom_13 : decode prog_3_method_3_code 13 = .ok (.invokevirtual 43, 3) := by decide +kernel
theorem dc_Exp_firstFrom_16 : decode prog_3_method_3_code 16 = .ok (.iconst (-1), 1) := by decide +kernel
theorem dc_Exp_firstFrom_17 : decode prog_3_method_3_code 17 = .ok (.if_icmp .eq 5, 3) := by decide +kernel
theorem dc_Exp_firstFrom_20 : decode prog_3_method_3_code 20 = .ok (.iload_n 3, 1) := by decide +kernel
theorem dc_Exp_firstFrom_21 : decode prog_3_method_3_code 21 = .ok (.ireturn, 1) := by decide +kernel
theorem dc_Exp_firstFrom_22 : decode prog_3_method_3_code 22 = .ok (.iinc 3 1, 3) := by decide +kernel
theorem dc_Exp_firstFrom_25 : decode prog_3_method_3_code 25 = .ok (.goto (-23), 3) := by decide +kernel
theorem dc_Exp_firstFrom_28 : decode prog_3_method_3_code 28 = .ok (.iconst (-1), 1) := by decide +kernel
theorem dc_Exp_firstFrom_29 : decode prog_3_method_3_code 29 = .ok (.ireturn, 1) := by decide +kernel
theorem dc_Exp_longestFrom_0 : decode prog_3_method_4_code 0 = .ok (.aload_n 0, 1) := by decide +kernel
theorem dc_Exp_longestFrom_1 : decode prog_3_method_4_code 1 = .ok (.getfield 24, 3) := by decide +kernel
theorem dc_Exp_longestFrom_4 : decode prog_3_method_4_code 4 = .ok (.iload_n 2, 1) := by decide +kernel
theorem dc_Exp_longestFrom_5 : decode prog_3_method_4_code 5 = .ok (.aload_n 1, 1) := by decide +kernel
theorem dc_Exp_longestFrom_6 : decode prog_3_method_4_code 6 = .ok (.getfield 38, 3) := by decide +kernel
theorem dc_Exp_longestFrom_9 : decode prog_3_method_4_code 9 = .ok (.invokestatic 47, 3) := by decide +kernel
theorem dc_Exp_longestFrom_12 : decode prog_3_method_4_code 12 = .ok (.baload, 1) := by decide +kernel
theorem dc_Exp_longestFrom_13 : decode prog_3_method_4_code 13 = .ok (.ifCond .eq 7, 3) := by decide +kernel
theorem dc_Exp_longestFrom_16 : decode prog_3_method_4_code 16 = .ok (.iload_n 2, 1) := by decide +kernel
theorem dc_Exp_longestFrom_17 : decode prog_3_method_4_code 17 = .ok (.goto 4, 3) := by decide +kernel
theorem dc_Exp_longestFrom_20 : decode prog_3_method_4_code 20 = .ok (.iconst (-1), 1) := by decide +kernel
theorem dc_Exp_longestFrom_21 : decode prog_3_method_4_code 21 = .ok (.istore_n 3, 1) := by decide +kernel
theorem dc_Exp_longestFrom_22 : decode prog_3_method_4_code 22 = .ok (.aload_n 0, 1) := by decide +kernel
theorem dc_Exp_longestFrom_23 : decode prog_3_method_4_code 23 = .ok (.getfield 18, 3) := by decide +kernel
theorem dc_Exp_longestFrom_26 : decode prog_3_method_4_code 26 = .ok (.iload_n 2, 1) := by decide +kernel
theorem dc_Exp_longestFrom_27 : decode prog_3_method_4_code 27 = .ok (.aload_n 1, 1) := by decide +kernel
theorem dc_Exp_longestFrom_28 : decode prog_3_method_4_code 28 = .ok (.getfield 38, 3) := by decide +kernel
theorem dc_Exp_longestFrom_31 : decode prog_3_method_4_code 31 = .ok (.invokestatic 47, 3) := by decide +kernel
theorem dc_Exp_longestFrom_34 : decode prog_3_method_4_code 34 = .ok (.laload, 1) := by decide +kernel
theorem dc_Exp_longestFrom_35 : decode prog_3_method_4_code 35 = .ok (.lstore 4, 2) := by decide +kernel
theorem dc_Exp_longestFrom_37 : decode prog_3_method_4_code 37 = .ok (.iload_n 2, 1) := by decide +kernel
theorem dc_Exp_longestFrom_38 : decode prog_3_method_4_code 38 = .ok (.istore 6, 2) := by decide +kernel
theorem dc_Exp_longestFrom_40 : decode prog_3_method_4_code 40 = .ok (.iload 6, 2) := by decide +kernel
theorem dc_Exp_longestFrom_42 : decode prog_3_method_4_code 42 = .ok (.aload_n 1, 1) := by decide +kernel
theorem dc_Exp_longestFrom_43 : decode prog_3_method_4_code 43 = .ok (.getfield 38, 3) := by decide +kernel
theorem dc_Exp_longestFrom_46 : decode prog_3_method_4_code 46 = .ok (.if_icmp .ge 70, 3) := by decide +kernel
theorem dc_Exp_longestFrom_49 : decode prog_3_method_4_code 49 = .ok (.lload 4, 2) := by decide +kernel
theorem dc_Exp_longestFrom_51 : decode prog_3_method_4_code 51 = .ok (.lconst 0, 1) := by decide +kernel
theorem dc_Exp_longestFrom_52 : decode prog_3_method_4_code 52 = .ok (.lcmp, 1) := by decide +kernel
theorem dc_Exp_longestFrom_53 : decode prog_3_method_4_code 53 = .ok (.ifCond .eq 63, 3) := by decide +kernel
theorem dc_Exp_longestFrom_56 : decode prog_3_method_4_code 56 = .ok (.lload 4, 2) := by decide +kernel
theorem dc_Exp_longestFrom_58 : decode prog_3_method_4_code 58 = .ok (.aload_n 0, 1) := by decide +kernel
theorem dc_Exp_longestFrom_59 : decode prog_3_method_4_code 59 = .ok (.getfield 9, 3) := by decide +kernel
theorem dc_Exp_longestFrom_62 : decode prog_3_method_4_code 62 = .ok (.aload_n 1, 1) := by decide +kernel
theorem dc_Exp_longestFrom_63 : decode prog_3_method_4_code 63 = .ok (.getfield 51, 3) := by decide +kernel
theorem dc_Exp_longestFrom_66 : decode prog_3_method_4_code 66 = .ok (.iload 6, 2) := by decide +kernel
theorem dc_Exp_longestFrom_68 : decode prog_3_method_4_code 68 = .ok (.iaload, 1) := by decide +kernel
theorem dc_Exp_longestFrom_69 : decode prog_3_method_4_code 69 = .ok (.laload, 1) := by decide +kernel
theorem dc_Exp_longestFrom_70 : decode prog_3_method_4_code 70 = .ok (.land, 1) := by decide +kernel
theorem dc_Exp_longestFrom_71 : decode prog_3_method_4_code 71 = .ok (.lstore 7, 2) := by decide +kernel
theorem dc_Exp_longestFrom_73 : decode prog_3_method_4_code 73 = .ok (.lload 7, 2) := by decide +kernel
theorem dc_Exp_longestFrom_75 : decode prog_3_method_4_code 75 = .ok (.aload_n 0, 1) := by decide +kernel
theorem dc_Exp_longestFrom_76 : decode prog_3_method_4_code 76 = .ok (.getfield 21, 3) := by decide +kernel
theorem dc_Exp_longestFrom_79 : decode prog_3_method_4_code 79 = .ok (.iload 6, 2) := by decide +kernel
theorem dc_Exp_longestFrom_81 : decode prog_3_method_4_code 81 = .ok (.iconst 1, 1) := by decide +kernel
theorem dc_Exp_longestFrom_82 : decode prog_3_method_4_code 82 = .ok (.iadd, 1) := by decide +kernel
theorem dc_Exp_longestFrom_83 : decode prog_3_method_4_code 83 = .ok (.aload_n 1, 1) := by decide +kernel
theorem dc_Exp_longestFrom_84 : decode prog_3_method_4_code 84 = .ok (.getfield 38, 3) := by decide +kernel
theorem dc_Exp_longestFrom_87 : decode prog_3_method_4_code 87 = .ok (.invokestatic 47, 3) := by decide +kernel
theorem dc_Exp_longestFrom_90 : decode prog_3_method_4_code 90 = .ok (.laload, 1) := by decide +kernel
theorem dc_Exp_longestFrom_91 : decode prog_3_method_4_code 91 = .ok (.land, 1) := by decide +kernel
theorem dc_Exp_longestFrom_92 : decode prog_3_method_4_code 92 = .ok (.lconst 0, 1) := by decide +kernel
theorem dc_Exp_longestFrom_93 : decode prog_3_method_4_code 93 = .ok (.lcmp, 1) := by decide +kernel
theorem dc_Exp_longestFrom_94 : decode prog_3_method_4_code 94 = .ok (.ifCond .eq 8, 3) := by decide +kernel
theorem dc_Exp_longestFrom_97 : decode prog_3_method_4_code 97 = .ok (.iload 6, 2) := by decide +kernel
theorem dc_Exp_longestFrom_99 : decode prog_3_method_4_code 99 = .ok (.iconst 1, 1) := by decide +kernel
theorem dc_Exp_longestFrom_100 : decode prog_3_method_4_code 100 = .ok (.iadd, 1) := by decide +kernel
theorem dc_Exp_longestFrom_101 : decode prog_3_method_4_code 101 = .ok (.istore_n 3, 1) := by decide +kernel
theorem dc_Exp_longestFrom_102 : decode prog_3_method_4_code 102 = .ok (.aload_n 0, 1) := by decide +kernel
theorem dc_Exp_longestFrom_103 : decode prog_3_method_4_code 103 = .ok (.lload 7, 2) := by decide +kernel
theorem dc_Exp_longestFrom_105 : decode prog_3_method_4_code 105 = .ok (.invokevirtual 55, 3) := by decide +kernel
theorem dc_Exp_longestFrom_108 : decode prog_3_method_4_code 108 = .ok (.lstore 4, 2) := by decide +kernel
theorem dc_Exp_longestFrom_110 : decode prog_3_method_4_code 110 = .ok (.iinc 6 1, 3) := by decide +kernel
theorem dc_Exp_longestFrom_113 : decode prog_3_method_4_code 113 = .ok (.goto (-73), 3) := by decide +kernel
theorem dc_Exp_longestFrom_116 : decode prog_3_method_4_code 116 = .ok (.iload_n 3, 1) := by decide +kernel
theorem dc_Exp_longestFrom_117 : decode prog_3_method_4_code 117 = .ok (.ireturn, 1) := by decide +kernel
theorem dc_Exp_kindOf_0 : decode prog_3_method_5_code 0 = .ok (.iload_n 0, 1) := by decide +kernel
theorem dc_Exp_kindOf_1 : decode prog_3_method_5_code 1 = .ok (.ifCond .ne 7, 3) := by decide +kernel
theorem dc_Exp_kindOf_4 : decode prog_3_method_5_code 4 = .ok (.iconst 1, 1) := by decide +kernel
theorem dc_Exp_kindOf_5 : decode prog_3_method_5_code 5 = .ok (.goto 4, 3) := by decide +kernel
theorem dc_Exp_kindOf_8 : decode prog_3_method_5_code 8 = .ok (.iconst 0, 1) := by decide +kernel
theorem dc_Exp_kindOf_9 : decode prog_3_method_5_code 9 = .ok (.iload_n 0, 1) := by decide +kernel
theorem dc_Exp_kindOf_10 : decode prog_3_method_5_code 10 = .ok (.iload_n 1, 1) := by decide +kernel
theorem dc_Exp_kindOf_11 : decode prog_3_method_5_code 11 = .ok (.if_icmp .ne 7, 3) := by decide +kernel
theorem dc_Exp_kindOf_14 : decode prog_3_method_5_code 14 = .ok (.iconst 2, 1) := by decide +kernel
theorem dc_Exp_kindOf_15 : decode prog_3_method_5_code 15 = .ok (.goto 4, 3) := by decide +kernel
theorem dc_Exp_kindOf_18 : decode prog_3_method_5_code 18 = .ok (.iconst 0, 1) := by decide +kernel
theorem dc_Exp_kindOf_19 : decode prog_3_method_5_code 19 = .ok (.ior, 1) := by decide +kernel
theorem dc_Exp_kindOf_20 : decode prog_3_method_5_code 20 = .ok (.ireturn, 1) := by decide +kernel
theorem dc_Exp_followersOf_0 : decode prog_3_method_6_code 0 = .ok (.lconst 0, 1) := by decide +kernel
theorem dc_Exp_followersOf_1 : decode prog_3_method_6_code 1 = .ok (.lstore_n 3, 1) := by decide +kernel
theorem dc_Exp_followersOf_2 : decode prog_3_method_6_code 2 = .ok (.lload_n 1, 1) := by decide +kernel
theorem dc_Exp_followersOf_3 : decode prog_3_method_6_code 3 = .ok (.lstore 5, 2) := by decide +kernel
theorem dc_Exp_followersOf_5 : decode prog_3_method_6_code 5 = .ok (.iconst 0, 1) := by decide +kernel
theorem dc_Exp_followersOf_6 : decode prog_3_method_6_code 6 = .ok (.istore 7, 2) := by decide +kernel
theorem dc_Exp_followersOf_8 : decode prog_3_method_6_code 8 = .ok (.iload 7, 2) := by decide +kernel
theorem dc_Exp_followersOf_10 : decode prog_3_method_6_code 10 = .ok (.aload_n 0, 1) := by decide +kernel
theorem dc_Exp_followersOf_11 : decode prog_3_method_6_code 11 = .ok (.getfield 34, 3) := by decide +kernel
theorem dc_Exp_followersOf_14 : decode prog_3_method_6_code 14 = .ok (.if_icmp .ge 41, 3) := by decide +kernel
theorem dc_Exp_followersOf_17 : decode prog_3_method_6_code 17 = .ok (.lload 5, 2) := by decide +kernel
theorem dc_Exp_followersOf_19 : decode prog_3_method_6_code 19 = .ok (.lconst 0, 1) := by decide +kernel
theorem dc_Exp_followersOf_20 : decode prog_3_method_6_code 20 = .ok (.lcmp, 1) := by decide +kernel
theorem dc_Exp_followersOf_21 : decode prog_3_method_6_code 21 = .ok (.ifCond .eq 34, 3) := by decide +kernel
theorem dc_Exp_followersOf_24 : decode prog_3_method_6_code 24 = .ok (.lload 5, 2) := by decide +kernel
theorem dc_Exp_followersOf_26 : decode prog_3_method_6_code 26 = .ok (.lconst 1, 1) := by decide +kernel
theorem dc_Exp_followersOf_27 : decode prog_3_method_6_code 27 = .ok (.land, 1) := by decide +kernel
theorem dc_Exp_followersOf_28 : decode prog_3_method_6_code 28 = .ok (.lconst 0, 1) := by decide +kernel
theorem dc_Exp_followersOf_29 : decode prog_3_method_6_code 29 = .ok (.lcmp, 1) := by decide +kernel
theorem dc_Exp_followersOf_30 : decode prog_3_method_6_code 30 = .ok (.ifCond .eq 13, 3) := by decide +kernel
theorem dc_Exp_followersOf_33 : decode prog_3_method_6_code 33 = .ok (.lload_n 3, 1) := by decide +kernel
theorem dc_Exp_followersOf_34 : decode prog_3_method_6_code 34 = .ok (.aload_n 0, 1) := by decide +kernel
theorem dc_Exp_followersOf_35 : decode prog_3_method_6_code 35 = .ok (.getfield 15, 3) := by decide +kernel
theorem dc_Exp_followersOf_38 : decode prog_3_method_6_code 38 = .ok (.iload 7, 2) := by decide +kernel
theorem dc_Exp_followersOf_40 : decode prog_3_method_6_code 40 = .ok (.laload, 1) := by decide +kernel
theorem dc_Exp_followersOf_41 : decode prog_3_method_6_code 41 = .ok (.lor, 1) := by decide +kernel
theorem dc_Exp_followersOf_42 : decode prog_3_method_6_code 42 = .ok (.lstore_n 3, 1) := by decide +kernel
theorem dc_Exp_followersOf_43 : decode prog_3_method_6_code 43 = .ok (.lload 5, 2) := by decide +kernel
theorem dc_Exp_followersOf_45 : decode prog_3_method_6_code 45 = .ok (.iconst 1, 1) := by decide +kernel
theorem dc_Exp_followersOf_46 : decode prog_3_method_6_code 46 = .ok (.lushr, 1) := by decide +kernel
theorem dc_Exp_followersOf_47 : decode prog_3_method_6_code 47 = .ok (.lstore 5, 2) := by decide +kernel
theorem dc_Exp_followersOf_49 : decode prog_3_method_6_code 49 = .ok (.iinc 7 1, 3) := by decide +kernel
theorem dc_Exp_followersOf_52 : decode prog_3_method_6_code 52 = .ok (.goto (-44), 3) := by decide +kernel
theorem dc_Exp_followersOf_55 : decode prog_3_method_6_code 55 = .ok (.lload_n 3, 1) := by decide +kernel
theorem dc_Exp_followersOf_56 : decode prog_3_method_6_code 56 = .ok (.lreturn, 1) := by decide +kernel
