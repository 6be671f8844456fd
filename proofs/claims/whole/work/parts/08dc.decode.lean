theorem dc_Rdr_init_0 : decode prog_5_method_1_code 0 = .ok (.aload_n 0, 1) := by decide +kernel
theorem dc_Rdr_init_1 : decode prog_5_method_1_code 1 = .ok (.invokespecial 3, 3) := by decide +kernel
theorem dc_Rdr_init_4 : decode prog_5_method_1_code 4 = .ok (.aload_n 0, 1) := by decide +kernel
theorem dc_Rdr_init_5 : decode prog_5_method_1_code 5 = .ok (.bipush 121, 2) := by decide +kernel
theorem dc_Rdr_init_7 : decode prog_5_method_1_code 7 = .ok (.newarray .int, 2) := by decide +kernel
theorem dc_Rdr_init_9 : decode prog_5_method_1_code 9 = .ok (.putfield 11, 3) := by decide +kernel
theorem dc_Rdr_init_12 : decode prog_5_method_1_code 12 = .ok (.aload_n 0, 1) := by decide +kernel
theorem dc_Rdr_init_13 : decode prog_5_method_1_code 13 = .ok (.bipush 121, 2) := by decide +kernel
theorem dc_Rdr_init_15 : decode prog_5_method_1_code 15 = .ok (.newarray .int, 2) := by decide +kernel
theorem dc_Rdr_init_17 : decode prog_5_method_1_code 17 = .ok (.putfield 15, 3) := by decide +kernel
theorem dc_Rdr_init_20 : decode prog_5_method_1_code 20 = .ok (.aload_n 0, 1) := by decide +kernel
theorem dc_Rdr_init_21 : decode prog_5_method_1_code 21 = .ok (.bipush 121, 2) := by decide +kernel
theorem dc_Rdr_init_23 : decode prog_5_method_1_code 23 = .ok (.newarray .int, 2) := by decide +kernel
theorem dc_Rdr_init_25 : decode prog_5_method_1_code 25 = .ok (.putfield 18, 3) := by decide +kernel
theorem dc_Rdr_init_28 : decode prog_5_method_1_code 28 = .ok (.aload_n 0, 1) := by decide +kernel
theorem dc_Rdr_init_29 : decode prog_5_method_1_code 29 = .ok (.bipush 121, 2) := by decide +kernel
theorem dc_Rdr_init_31 : decode prog_5_method_1_code 31 = .ok (.newarray .boolean, 2) := by decide +kernel
theorem dc_Rdr_init_33 : decode prog_5_method_1_code 33 = .ok (.putfield 21, 3) := by decide +kernel
theorem dc_Rdr_init_36 : decode prog_5_method_1_code 36 = .ok (.aload_n 0, 1) := by decide +kernel
theorem dc_Rdr_init_37 : decode prog_5_method_1_code 37 = .ok (.bipush 121, 2) := by decide +kernel
theorem dc_Rdr_init_39 : decode prog_5_method_1_code 39 = .ok (.newarray .long, 2) := by decide +kernel
theorem dc_Rdr_init_41 : decode prog_5_method_1_code 41 = .ok (.putfield 25, 3) := by decide +kernel
theorem dc_Rdr_init_44 : decode prog_5_method_1_code 44 = .ok (.aload_n 0, 1) := by decide +kernel
theorem dc_Rdr_init_45 : decode prog_5_method_1_code 45 = .ok (.bipush 121, 2) := by decide +kernel
theorem dc_Rdr_init_47 : decode prog_5_method_1_code 47 = .ok (.newarray .long, 2) := by decide +kernel
theorem dc_Rdr_init_49 : decode prog_5_method_1_code 49 = .ok (.putfield 29, 3) := by decide +kernel
theorem dc_Rdr_init_52 : decode prog_5_method_1_code 52 = .ok (.aload_n 0, 1) := by decide +kernel
theorem dc_Rdr_init_53 : decode prog_5_method_1_code 53 = .ok (.new 32, 3) := by decide +kernel
theorem dc_Rdr_init_56 : decode prog_5_method_1_code 56 = .ok (.dup, 1) := by decide +kernel
theorem dc_Rdr_init_57 : decode prog_5_method_1_code 57 = .ok (.invokespecial 34, 3) := by decide +kernel
theorem dc_Rdr_init_60 : decode prog_5_method_1_code 60 = .ok (.putfield 35, 3) := by decide +kernel
theorem dc_Rdr_init_63 : decode prog_5_method_1_code 63 = .ok (.aload_n 0, 1) := by decide +kernel
theorem dc_Rdr_init_64 : decode prog_5_method_1_code 64 = .ok (.new 39, 3) := by decide +kernel
theorem dc_Rdr_init_67 : decode prog_5_method_1_code 67 = .ok (.dup, 1) := by decide +kernel
theorem dc_Rdr_init_68 : decode prog_5_method_1_code 68 = .ok (.iconst 0, 1) := by decide +kernel
theorem dc_Rdr_init_69 : decode prog_5_method_1_code 69 = .ok (.invokespecial 41, 3) := by decide +kernel
theorem dc_Rdr_init_72 : decode prog_5_method_1_code 72 = .ok (.putfield 44, 3) := by decide +kernel
theorem dc_Rdr_init_75 : decode prog_5_method_1_code 75 = .ok (.return_, 1) := by decide +kernel
theorem dc_Rdr_read_0 : decode prog_5_method_2_code 0 = .ok (.aload_n 0, 1) := by decide +kernel
theorem dc_Rdr_read_1 : decode prog_5_method_2_code 1 = .ok (.aload_n 1, 1) := by decide +kernel
theorem dc_Rdr_read_2 : decode prog_5_method_2_code 2 = .ok (.putfield 44, 3) := by decide +kernel
theorem dc_Rdr_read_5 : decode prog_5_method_2_code 5 = .ok (.aload_n 0, 1) := by decide +kernel
theorem dc_Rdr_read_6 : decode prog_5_method_2_code 6 = .ok (.iconst 0, 1) := by decide +kernel
theorem dc_Rdr_read_7 : decode prog_5_method_2_code 7 = .ok (.putfield 48, 3) := by decide +kernel
theorem dc_Rdr_read_10 : decode prog_5_method_2_code 10 = .ok (.aload_n 0, 1) := by decide +kernel
theorem dc_Rdr_read_11 : decode prog_5_method_2_code 11 = .ok (.iconst (-1), 1) := by decide +kernel
theorem dc_Rdr_read_12 : decode prog_5_method_2_code 12 = .ok (.putfield 52, 3) := by decide +kernel
theorem dc_Rdr_read_15 : decode prog_5_method_2_code 15 = .ok (.aload_n 0, 1) := by decide +kernel
theorem dc_Rdr_read_16 : decode prog_5_method_2_code 16 = .ok (.iconst 0, 1) := by decide +kernel
theorem dc_Rdr_read_17 : decode prog_5_method_2_code 17 = .ok (.putfield 55, 3) := by decide +kernel
theorem dc_Rdr_read_20 : decode prog_5_method_2_code 20 = .ok (.aload_n 0, 1) := by decide +kernel
theorem dc_Rdr_read_21 : decode prog_5_method_2_code 21 = .ok (.getfield 35, 3) := by decide +kernel
theorem dc_Rdr_read_24 : decode prog_5_method_2_code 24 = .ok (.invokevirtual 58, 3) := by decide +kernel
theorem dc_Rdr_read_27 : decode prog_5_method_2_code 27 = .ok (.aload_n 0, 1) := by decide +kernel
theorem dc_Rdr_read_28 : decode prog_5_method_2_code 28 = .ok (.iconst 0, 1) := by decide +kernel
theorem dc_Rdr_read_29 : decode prog_5_method_2_code 29 = .ok (.invokevirtual 61, 3) := by decide +kernel
theorem dc_Rdr_read_32 : decode prog_5_method_2_code 32 = .ok (.istore_n 2, 1) := by decide +kernel
theorem dc_Rdr_read_33 : decode prog_5_method_2_code 33 = .ok (.aload_n 0, 1) := by decide +kernel
theorem dc_Rdr_read_34 : decode prog_5_method_2_code 34 = .ok (.getfield 48, 3) := by decide +kernel
theorem dc_Rdr_read_37 : decode prog_5_method_2_code 37 = .ok (.aload_n 0, 1) := by decide +kernel
theorem dc_Rdr_read_38 : decode prog_5_method_2_code 38 = .ok (.getfield 44, 3) := by decide +kernel
theorem dc_Rdr_read_41 : decode prog_5_method_2_code 41 = .ok (.getfield 65, 3) := by decide +kernel
theorem dc_Rdr_read_44 : decode prog_5_method_2_code 44 = .ok (.if_icmp .ge 8, 3) := by decide +kernel
theorem dc_Rdr_read_47 : decode prog_5_method_2_code 47 = .ok (.aload_n 0, 1) := by decide +kernel
theorem dc_Rdr_read_48 : decode prog_5_method_2_code 48 = .ok (.invokevirtual 68, 3) := by decide +kernel
theorem dc_Rdr_read_51 : decode prog_5_method_2_code 51 = .ok (.pop, 1) := by decide +kernel
theorem dc_Rdr_read_52 : decode prog_5_method_2_code 52 = .ok (.aload_n 0, 1) := by decide +kernel
theorem dc_Rdr_read_53 : decode prog_5_method_2_code 53 = .ok (.getfield 52, 3) := by decide +kernel
theorem dc_Rdr_read_56 : decode prog_5_method_2_code 56 = .ok (.iconst (-1), 1) := by decide +kernel
theorem dc_Rdr_read_57 : decode prog_5_method_2_code 57 = .ok (.if_icmp .ne 66, 3) := by decide +kernel
theorem dc_Rdr_read_60 : decode prog_5_method_2_code 60 = .ok (.iconst 0, 1) := by decide +kernel
theorem dc_Rdr_read_61 : decode prog_5_method_2_code 61 = .ok (.istore_n 3, 1) := by decide +kernel
theorem dc_Rdr_read_62 : decode prog_5_method_2_code 62 = .ok (.iload_n 3, 1) := by decide +kernel
theorem dc_Rdr_read_63 : decode prog_5_method_2_code 63 = .ok (.iconst 4, 1) := by decide +kernel
theorem dc_Rdr_read_64 : decode prog_5_method_2_code 64 = .ok (.if_icmp .ge 59, 3) := by decide +kernel
theorem dc_Rdr_read_67 : decode prog_5_method_2_code 67 = .ok (.aload_n 0, 1) := by decide +kernel
theorem dc_Rdr_read_68 : decode prog_5_method_2_code 68 = .ok (.iload_n 3, 1) := by decide +kernel
theorem dc_Rdr_read_69 : decode prog_5_method_2_code 69 = .ok (.invokevirtual 72, 3) := by decide +kernel
theorem dc_Rdr_read_72 : decode prog_5_method_2_code 72 = .ok (.aload_n 0, 1) := by decide +kernel
theorem dc_Rdr_read_73 : decode prog_5_method_2_code 73 = .ok (.getfield 35, 3) := by decide +kernel
theorem dc_Rdr_read_76 : decode prog_5_method_2_code 76 = .ok (.getfield 75, 3) := by decide +kernel
theorem dc_Rdr_read_79 : decode prog_5_method_2_code 79 = .ok (.iload_n 3, 1) := by decide +kernel
theorem dc_Rdr_read_80 : decode prog_5_method_2_code 80 = .ok (.aload_n 0, 1) := by decide +kernel
theorem dc_Rdr_read_81 : decode prog_5_method_2_code 81 = .ok (.getfield 21, 3) := by decide +kernel
theorem dc_Rdr_read_84 : decode prog_5_method_2_code 84 = .ok (.iload_n 2, 1) := by decide +kernel
theorem dc_Rdr_read_85 : decode prog_5_method_2_code 85 = .ok (.baload, 1) := by decide +kernel
theorem dc_Rdr_read_86 : decode prog_5_method_2_code 86 = .ok (.bastore, 1) := by decide +kernel
theorem dc_Rdr_read_87 : decode prog_5_method_2_code 87 = .ok (.aload_n 0, 1) := by decide +kernel
theorem dc_Rdr_read_88 : decode prog_5_method_2_code 88 = .ok (.getfield 35, 3) := by decide +kernel
theorem dc_Rdr_read_91 : decode prog_5_method_2_code 91 = .ok (.getfield 78, 3) := by decide +kernel
theorem dc_Rdr_read_94 : decode prog_5_method_2_code 94 = .ok (.iload_n 3, 1) := by decide +kernel
theorem dc_Rdr_read_95 : decode prog_5_method_2_code 95 = .ok (.aload_n 0, 1) := by decide +kernel
theorem dc_Rdr_read_96 : decode prog_5_method_2_code 96 = .ok (.getfield 25, 3) := by decide +kernel
theorem dc_Rdr_read_99 : decode prog_5_method_2_code 99 = .ok (.iload_n 2, 1) := by decide +kernel
theorem dc_Rdr_read_100 : decode prog_5_method_2_code 100 = .ok (.laload, 1) := by decide +kernel
theorem dc_Rdr_read_101 : decode prog_5_method_2_code 101 = .ok (.lastore, 1) := by decide +kernel
theorem dc_Rdr_read_102 : decode prog_5_method_2_code 102 = .ok (.aload_n 0, 1) := by decide +kernel
theorem dc_Rdr_read_103 : decode prog_5_method_2_code 103 = .ok (.getfield 35, 3) := by decide +kernel
theorem dc_Rdr_read_106 : decode prog_5_method_2_code 106 = .ok (.getfield 79, 3) := by decide +kernel
theorem dc_Rdr_read_109 : decode prog_5_method_2_code 109 = .ok (.iload_n 3, 1) := by decide +kernel
theorem dc_Rdr_read_110 : decode prog_5_method_2_code 110 = .ok (.aload_n 0, 1) := by decide +kernel
theorem dc_Rdr_read_111 : decode prog_5_method_2_code 111 = .ok (.getfield 29, 3) := by decide +kernel
theorem dc_Rdr_read_114 : decode prog_5_method_2_code 114 = .ok (.iload_n 2, 1) := by decide +kernel
theorem dc_Rdr_read_115 : decode prog_5_method_2_code 115 = .ok (.laload, 1) := by decide +kernel
theorem dc_Rdr_read_116 : decode prog_5_method_2_code 116 = .ok (.lastore, 1) := by decide +kernel
theorem dc_Rdr_read_117 : decode prog_5_method_2_code 117 = .ok (.iinc 3 1, 3) := by decide +kernel
theorem dc_Rdr_read_120 : decode prog_5_method_2_code 120 = .ok (.goto (-58), 3) := by decide +kernel
theorem dc_Rdr_read_123 : decode prog_5_method_2_code 123 = .ok (.aload_n 0, 1) := by decide +kernel
theorem dc_Rdr_read_124 : decode prog_5_method_2_code 124 = .ok (.getfield 52, 3) := by decide +kernel
theorem dc_Rdr_read_127 : decode prog_5_method_2_code 127 = .ok (.ireturn, 1) := by decide +kernel
theorem dc_Rdr_exchange_0 : decode prog_5_method_3_code 0 = .ok (.aload_n 0, 1) := by decide +kernel
theorem dc_Rdr_exchange_1 : decode prog_5_method_3_code 1 = .ok (.getfield 35, 3) := by decide +kernel
theorem dc_Rdr_exchange_4 : decode prog_5_method_3_code 4 = .ok (.astore_n 2, 1) := by decide +kernel
theorem dc_Rdr_exchange_5 : decode prog_5_method_3_code 5 = .ok (.aload_n 0, 1) := by decide +kernel
theorem dc_Rdr_exchange_6 : decode prog_5_method_3_code 6 = .ok (.aload_n 1, 1) := by decide +kernel
theorem dc_Rdr_exchange_7 : decode prog_5_method_3_code 7 = .ok (.putfield 35, 3) := by decide +kernel
theorem dc_Rdr_exchange_10 : decode prog_5_method_3_code 10 = .ok (.aload_n 2, 1) := by decide +kernel
theorem dc_Rdr_exchange_11 : decode prog_5_method_3_code 11 = .ok (.areturn, 1) := by decide +kernel
theorem dc_Rdr_alternation_0 : decode prog_5_method_4_code 0 = .ok (.aload_n 0, 1) := by decide +kernel
theorem dc_Rdr_alternation_1 : decode prog_5_method_4_code 1 = .ok (.iload_n 1, 1) := by decide +kernel
theorem dc_Rdr_alternation_2 : decode prog_5_method_4_code 2 = .ok (.invokevirtual 80, 3) := by decide +kernel
theorem dc_Rdr_alternation_5 : decode prog_5_method_4_code 5 = .ok (.istore_n 2, 1) := by decide +kernel
theorem dc_Rdr_alternation_6 : decode prog_5_method_4_code 6 = .ok (.iconst 0, 1) := by decide +kernel
theorem dc_Rdr_alternation_7 : decode prog_5_method_4_code 7 = .ok (.istore_n 3, 1) := by decide +kernel
theorem dc_Rdr_alternation_8 : decode prog_5_method_4_code 8 = .ok (.iload_n 3, 1) := by decide +kernel
theorem dc_Rdr_alternation_9 : decode prog_5_method_4_code 9 = .ok (.bipush 60, 2) := by decide +kernel
theorem dc_Rdr_alternation_11 : decode prog_5_method_4_code 11 = .ok (.if_icmp .ge 44, 3) := by decide +kernel
theorem dc_Rdr_alternation_14 : decode prog_5_method_4_code 14 = .ok (.aload_n 0, 1) := by decide +kernel
theorem dc_Rdr_alternation_15 : decode prog_5_method_4_code 15 = .ok (.invokevirtual 83, 3) := by decide +kernel
theorem dc_Rdr_alternation_18 : decode prog_5_method_4_code 18 = .ok (.bipush 124, 2) := by decide +kernel
theorem dc_Rdr_alternation_20 : decode prog_5_method_4_code 20 = .ok (.if_icmp .ne 35, 3) := by decide +kernel
theorem dc_Rdr_alternation_23 : decode prog_5_method_4_code 23 = .ok (.aload_n 0, 1) := by decide +kernel
theorem dc_Rdr_alternation_24 : decode prog_5_method_4_code 24 = .ok (.dup, 1) := by decide +kernel
theorem dc_Rdr_alternation_25 : decode prog_5_method_4_code 25 = .ok (.getfield 48, 3) := by decide +kernel
theorem dc_Rdr_alternation_28 : decode prog_5_method_4_code 28 = .ok (.iconst 1, 1) := by decide +kernel
theorem dc_Rdr_alternation_29 : decode prog_5_method_4_code 29 = .ok (.iadd, 1) := by decide +kernel
theorem dc_Rdr_alternation_30 : decode prog_5_method_4_code 30 = .ok (.putfield 48, 3) := by decide +kernel
theorem dc_Rdr_alternation_33 : decode prog_5_method_4_code 33 = .ok (.aload_n 0, 1) := by decide +kernel
theorem dc_Rdr_alternation_34 : decode prog_5_method_4_code 34 = .ok (.iload_n 1, 1) := by decide +kernel
theorem dc_Rdr_alternation_35 : decode prog_5_method_4_code 35 = .ok (.invokevirtual 80, 3) := by decide +kernel
theorem dc_Rdr_alternation_38 : decode prog_5_method_4_code 38 = .ok (.istore 4, 2) := by decide +kernel
theorem dc_Rdr_alternation_40 : decode prog_5_method_4_code 40 = .ok (.aload_n 0, 1) := by decide +kernel
theorem dc_Rdr_alternation_41 : decode prog_5_method_4_code 41 = .ok (.iconst 5, 1) := by decide +kernel
theorem dc_Rdr_alternation_42 : decode prog_5_method_4_code 42 = .ok (.iload_n 2, 1) := by decide +kernel
theorem dc_Rdr_alternation_43 : decode prog_5_method_4_code 43 = .ok (.iload 4, 2) := by decide +kernel
theorem dc_Rdr_alternation_45 : decode prog_5_method_4_code 45 = .ok (.invokevirtual 86, 3) := by decide +kernel
theorem dc_Rdr_alternation_48 : decode prog_5_method_4_code 48 = .ok (.istore_n 2, 1) := by decide +kernel
theorem dc_Rdr_alternation_49 : decode prog_5_method_4_code 49 = .ok (.iinc 3 1, 3) := by decide +kernel
theorem dc_Rdr_alternation_52 : decode prog_5_method_4_code 52 = .ok (.goto (-44), 3) := by decide +kernel
theorem dc_Rdr_alternation_55 : decode prog_5_method_4_code 55 = .ok (.iload_n 2, 1) := by decide +kernel
theorem dc_Rdr_alternation_56 : decode prog_5_method_4_code 56 = .ok (.ireturn, 1) := by decide +kernel
theorem dc_Rdr_sequence_0 : decode prog_5_method_5_code 0 = .ok (.aload_n 0, 1) := by decide +kernel
theorem dc_Rdr_sequence_1 : decode prog_5_method_5_code 1 = .ok (.iconst 0, 1) := by decide +kernel
theorem dc_Rdr_sequence_2 : decode prog_5_method_5_code 2 = .ok (.iconst 0, 1) := by decide +kernel
theorem dc_Rdr_sequence_3 : decode prog_5_method_5_code 3 = .ok (.iconst 0, 1) := by decide +kernel
theorem dc_Rdr_sequence_4 : decode prog_5_method_5_code 4 = .ok (.invokevirtual 86, 3) := by decide +kernel
theorem dc_Rdr_sequence_7 : decode prog_5_method_5_code 7 = .ok (.istore_n 2, 1) := by decide +kernel
theorem dc_Rdr_sequence_8 : decode prog_5_method_5_code 8 = .ok (.iconst 0, 1) := by decide +kernel
theorem dc_Rdr_sequence_9 : decode prog_5_method_5_code 9 = .ok (.istore_n 3, 1) := by decide +kernel
theorem dc_Rdr_sequence_10 : decode prog_5_method_5_code 10 = .ok (.iload_n 3, 1) := by decide +kernel
theorem dc_Rdr_sequence_11 : decode prog_5_method_5_code 11 = .ok (.bipush 60, 2) := by decide +kernel
theorem dc_Rdr_sequence_13 : decode prog_5_method_5_code 13 = .ok (.if_icmp .ge 54, 3) := by decide +kernel
theorem dc_Rdr_sequence_16 : decode prog_5_method_5_code 16 = .ok (.aload_n 0, 1) := by decide +kernel
theorem dc_Rdr_sequence_17 : decode prog_5_method_5_code 17 = .ok (.invokevirtual 83, 3) := by decide +kernel
theorem dc_Rdr_sequence_20 : decode prog_5_method_5_code 20 = .ok (.ifCond .eq 47, 3) := by decide +kernel
theorem dc_Rdr_sequence_23 : decode prog_5_method_5_code 23 = .ok (.aload_n 0, 1) := by decide +kernel
theorem dc_Rdr_sequence_24 : decode prog_5_method_5_code 24 = .ok (.invokevirtual 83, 3) := by decide +kernel
theorem dc_Rdr_sequence_27 : decode prog_5_method_5_code 27 = .ok (.bipush 124, 2) := by decide +kernel
theorem dc_Rdr_sequence_29 : decode prog_5_method_5_code 29 = .ok (.if_icmp .eq 38, 3) := by decide +kernel
theorem dc_Rdr_sequence_32 : decode prog_5_method_5_code 32 = .ok (.aload_n 0, 1) := by decide +kernel
theorem dc_Rdr_sequence_33 : decode prog_5_method_5_code 33 = .ok (.invokevirtual 83, 3) := by decide +kernel
theorem dc_Rdr_sequence_36 : decode prog_5_method_5_code 36 = .ok (.bipush 41, 2) := by decide +kernel
theorem dc_Rdr_sequence_38 : decode prog_5_method_5_code 38 = .ok (.if_icmp .eq 29, 3) := by decide +kernel
theorem dc_Rdr_sequence_41 : decode prog_5_method_5_code 41 = .ok (.aload_n 0, 1) := by decide +kernel
theorem dc_Rdr_sequence_42 : decode prog_5_method_5_code 42 = .ok (.aload_n 0, 1) := by decide +kernel
theorem dc_Rdr_sequence_43 : decode prog_5_method_5_code 43 = .ok (.iload_n 1, 1) := by decide +kernel
theorem dc_Rdr_sequence_44 : decode prog_5_method_5_code 44 = .ok (.invokevirtual 90, 3) := by decide +kernel
theorem dc_Rdr_sequence_47 : decode prog_5_method_5_code 47 = .ok (.invokevirtual 93, 3) := by decide +kernel
theorem dc_Rdr_sequence_50 : decode prog_5_method_5_code 50 = .ok (.istore 4, 2) := by decide +kernel
theorem dc_Rdr_sequence_52 : decode prog_5_method_5_code 52 = .ok (.aload_n 0, 1) := by decide +kernel
theorem dc_Rdr_sequence_53 : decode prog_5_method_5_code 53 = .ok (.iconst 4, 1) := by decide +kernel
theorem dc_Rdr_sequence_54 : decode prog_5_method_5_code 54 = .ok (.iload_n 2, 1) := by decide +kernel
theorem dc_Rdr_sequence_55 : decode prog_5_method_5_code 55 = .ok (.iload 4, 2) := by decide +kernel
theorem dc_Rdr_sequence_57 : decode prog_5_method_5_code 57 = .ok (.invokevirtual 86, 3) := by decide +kernel
theorem dc_Rdr_sequence_60 : decode prog_5_method_5_code 60 = .ok (.istore_n 2, 1) := by decide +kernel
theorem dc_Rdr_sequence_61 : decode prog_5_method_5_code 61 = .ok (.iinc 3 1, 3) := by decide +kernel
theorem dc_Rdr_sequence_64 : decode prog_5_method_5_code 64 = .ok (.goto (-54), 3) := by decide +kernel
theorem dc_Rdr_sequence_67 : decode prog_5_method_5_code 67 = .ok (.iload_n 2, 1) := by decide +kernel
theorem dc_Rdr_sequence_68 : decode prog_5_method_5_code 68 = .ok (.ireturn, 1) := by decide +kernel
theorem dc_Rdr_repeated_0 : decode prog_5_method_6_code 0 = .ok (.iload_n 1, 1) := by decide +kernel
theorem dc_Rdr_repeated_1 : decode prog_5_method_6_code 1 = .ok (.istore_n 2, 1) := by decide +kernel
theorem dc_Rdr_repeated_2 : decode prog_5_method_6_code 2 = .ok (.iconst 0, 1) := by decide +kernel
theorem dc_Rdr_repeated_3 : decode prog_5_method_6_code 3 = .ok (.istore_n 3, 1) := by decide +kernel
theorem dc_Rdr_repeated_4 : decode prog_5_method_6_code 4 = .ok (.iload_n 3, 1) := by decide +kernel
theorem dc_Rdr_repeated_5 : decode prog_5_method_6_code 5 = .ok (.bipush 60, 2) := by decide +kernel
theorem dc_Rdr_repeated_7 : decode prog_5_method_6_code 7 = .ok (.if_icmp .ge 43, 3) := by decide +kernel
theorem dc_Rdr_repeated_10 : decode prog_5_method_6_code 10 = .ok (.aload_n 0, 1) := by decide +kernel
theorem dc_Rdr_repeated_11 : decode prog_5_method_6_code 11 = .ok (.invokevirtual 83, 3) := by decide +kernel
theorem dc_Rdr_repeated_14 : decode prog_5_method_6_code 14 = .ok (.invokestatic 96, 3) := by decide +kernel
theorem dc_Rdr_repeated_17 : decode prog_5_method_6_code 17 = .ok (.ifCond .eq 33, 3) := by decide +kernel
theorem dc_Rdr_repeated_20 : decode prog_5_method_6_code 20 = .ok (.aload_n 0, 1) := by decide +kernel
theorem dc_Rdr_repeated_21 : decode prog_5_method_6_code 21 = .ok (.aload_n 0, 1) := by decide +kernel
theorem dc_Rdr_repeated_22 : decode prog_5_method_6_code 22 = .ok (.invokevirtual 83, 3) := by decide +kernel
theorem dc_Rdr_repeated_25 : decode prog_5_method_6_code 25 = .ok (.invokestatic 100, 3) := by decide +kernel
theorem dc_Rdr_repeated_28 : decode prog_5_method_6_code 28 = .ok (.iload_n 2, 1) := by decide +kernel
theorem dc_Rdr_repeated_29 : decode prog_5_method_6_code 29 = .ok (.iconst 0, 1) := by decide +kernel
theorem dc_Rdr_repeated_30 : decode prog_5_method_6_code 30 = .ok (.invokevirtual 86, 3) := by decide +kernel
theorem dc_Rdr_repeated_33 : decode prog_5_method_6_code 33 = .ok (.istore_n 2, 1) := by decide +kernel
theorem dc_Rdr_repeated_34 : decode prog_5_method_6_code 34 = .ok (.aload_n 0, 1) := by decide +kernel
theorem dc_Rdr_repeated_35 : decode prog_5_method_6_code 35 = .ok (.dup, 1) := by decide +kernel
theorem dc_Rdr_repeated_36 : decode prog_5_method_6_code 36 = .ok (.getfield 48, 3) := by decide +kernel
theorem dc_Rdr_repeated_39 : decode prog_5_method_6_code 39 = .ok (.iconst 1, 1) := by decide +kernel
theorem dc_Rdr_repeated_40 : decode prog_5_method_6_code 40 = .ok (.iadd, 1) := by decide +kernel
theorem dc_Rdr_repeated_41 : decode prog_5_method_6_code 41 = .ok (.putfield 48, 3) := by decide +kernel
theorem dc_Rdr_repeated_44 : decode prog_5_method_6_code 44 = .ok (.iinc 3 1, 3) := by decide +kernel
theorem dc_Rdr_repeated_47 : decode prog_5_method_6_code 47 = .ok (.goto (-43), 3) := by decide +kernel
theorem dc_Rdr_repeated_50 : decode prog_5_method_6_code 50 = .ok (.iload_n 2, 1) := by decide +kernel
theorem dc_Rdr_repeated_51 : decode prog_5_method_6_code 51 = .ok (.ireturn, 1) := by decide +kernel
theorem dc_Rdr_isRepeat_0 : decode prog_5_method_7_code 0 = .ok (.iload_n 0, 1) := by decide +kernel
theorem dc_Rdr_isRepeat_1 : decode prog_5_method_7_code 1 = .ok (.bipush 42, 2) := by decide +kernel
theorem dc_Rdr_isRepeat_3 : decode prog_5_method_7_code 3 = .ok (.if_icmp .eq 15, 3) := by decide +kernel
theorem dc_Rdr_isRepeat_6 : decode prog_5_method_7_code 6 = .ok (.iload_n 0, 1) := by decide +kernel
theorem dc_Rdr_isRepeat_7 : decode prog_5_method_7_code 7 = .ok (.bipush 43, 2) := by decide +kernel
theorem dc_Rdr_isRepeat_9 : decode prog_5_method_7_code 9 = .ok (.if_icmp .eq 9, 3) := by decide +kernel
theorem dc_Rdr_isRepeat_12 : decode prog_5_method_7_code 12 = .ok (.iload_n 0, 1) := by decide +kernel
theorem dc_Rdr_isRepeat_13 : decode prog_5_method_7_code 13 = .ok (.bipush 63, 2) := by decide +kernel
theorem dc_Rdr_isRepeat_15 : decode prog_5_method_7_code 15 = .ok (.if_icmp .ne 7, 3) := by decide +kernel
theorem dc_Rdr_isRepeat_18 : decode prog_5_method_7_code 18 = .ok (.iconst 1, 1) := by decide +kernel
theorem dc_Rdr_isRepeat_19 : decode prog_5_method_7_code 19 = .ok (.goto 4, 3) := by decide +kernel
theorem dc_Rdr_isRepeat_22 : decode prog_5_method_7_code 22 = .ok (.iconst 0, 1) := by decide +kernel
theorem dc_Rdr_isRepeat_23 : decode prog_5_method_7_code 23 = .ok (.ireturn, 1) := by decide +kernel
theorem dc_Rdr_repeatKind_0 : decode prog_5_method_8_code 0 = .ok (.iload_n 0, 1) := by decide +kernel
theorem dc_Rdr_repeatKind_1 : decode prog_5_method_8_code 1 = .ok (.bipush 42, 2) := by decide +kernel
theorem dc_Rdr_repeatKind_3 : decode prog_5_method_8_code 3 = .ok (.if_icmp .ne 8, 3) := by decide +kernel
theorem dc_Rdr_repeatKind_6 : decode prog_5_method_8_code 6 = .ok (.bipush 6, 2) := by decide +kernel
theorem dc_Rdr_repeatKind_8 : decode prog_5_method_8_code 8 = .ok (.goto 16, 3) := by decide +kernel
theorem dc_Rdr_repeatKind_11 : decode prog_5_method_8_code 11 = .ok (.iload_n 0, 1) := by decide +kernel
theorem dc_Rdr_repeatKind_12 : decode prog_5_method_8_code 12 = .ok (.bipush 43, 2) := by decide +kernel
theorem dc_Rdr_repeatKind_14 : decode prog_5_method_8_code 14 = .ok (.if_icmp .ne 8, 3) := by decide +kernel
theorem dc_Rdr_repeatKind_17 : decode prog_5_method_8_code 17 = .ok (.bipush 7, 2) := by decide +kernel
theorem dc_Rdr_repeatKind_19 : decode prog_5_method_8_code 19 = .ok (.goto 5, 3) := by decide +kernel
theorem dc_Rdr_repeatKind_22 : decode prog_5_method_8_code 22 = .ok (.bipush 8, 2) := by decide +kernel
theorem dc_Rdr_repeatKind_24 : decode prog_5_method_8_code 24 = .ok (.ireturn, 1) := by decide +kernel
theorem dc_Rdr_atom_0 : decode prog_5_method_9_code 0 = .ok (.aload_n 0, 1) := by decide +kernel
theorem dc_Rdr_atom_1 : decode prog_5_method_9_code 1 = .ok (.invokevirtual 83, 3) := by decide +kernel
theorem dc_Rdr_atom_4 : decode prog_5_method_9_code 4 = .ok (.istore_n 2, 1) := by decide +kernel
theorem dc_Rdr_atom_5 : decode prog_5_method_9_code 5 = .ok (.iload_n 2, 1) := by decide +kernel
theorem dc_Rdr_atom_6 : decode prog_5_method_9_code 6 = .ok (.invokestatic 96, 3) := by decide +kernel
theorem dc_Rdr_atom_9 : decode prog_5_method_9_code 9 = .ok (.ifCond .ne 21, 3) := by decide +kernel
theorem dc_Rdr_atom_12 : decode prog_5_method_9_code 12 = .ok (.iload_n 2, 1) := by decide +kernel
theorem dc_Rdr_atom_13 : decode prog_5_method_9_code 13 = .ok (.bipush 93, 2) := by decide +kernel
theorem dc_Rdr_atom_15 : decode prog_5_method_9_code 15 = .ok (.if_icmp .eq 15, 3) := by decide +kernel
theorem dc_Rdr_atom_18 : decode prog_5_method_9_code 18 = .ok (.iload_n 2, 1) := by decide +kernel
theorem dc_Rdr_atom_19 : decode prog_5_method_9_code 19 = .ok (.bipush 40, 2) := by decide +kernel
theorem dc_Rdr_atom_21 : decode prog_5_method_9_code 21 = .ok (.if_icmp .ne 14, 3) := by decide +kernel
theorem dc_Rdr_atom_24 : decode prog_5_method_9_code 24 = .ok (.iload_n 1, 1) := by decide +kernel
theorem dc_Rdr_atom_25 : decode prog_5_method_9_code 25 = .ok (.bipush 10, 2) := by decide +kernel
theorem dc_Rdr_atom_27 : decode prog_5_method_9_code 27 = .ok (.if_icmp .lt 8, 3) := by decide +kernel
theorem dc_Rdr_atom_30 : decode prog_5_method_9_code 30 = .ok (.aload_n 0, 1) := by decide +kernel
theorem dc_Rdr_atom_31 : decode prog_5_method_9_code 31 = .ok (.invokevirtual 68, 3) := by decide +kernel
theorem dc_Rdr_atom_34 : decode prog_5_method_9_code 34 = .ok (.ireturn, 1) := by decide +kernel
theorem dc_Rdr_atom_35 : decode prog_5_method_9_code 35 = .ok (.aload_n 0, 1) := by decide +kernel
theorem dc_Rdr_atom_36 : decode prog_5_method_9_code 36 = .ok (.dup, 1) := by decide +kernel
theorem dc_Rdr_atom_37 : decode prog_5_method_9_code 37 = .ok (.getfield 48, 3) := by decide +kernel
theorem dc_Rdr_atom_40 : decode prog_5_method_9_code 40 = .ok (.iconst 1, 1) := by decide +kernel
theorem dc_Rdr_atom_41 : decode prog_5_method_9_code 41 = .ok (.iadd, 1) := by decide +kernel
theorem dc_Rdr_atom_42 : decode prog_5_method_9_code 42 = .ok (.putfield 48, 3) := by decide +kernel
theorem dc_Rdr_atom_45 : decode prog_5_method_9_code 45 = .ok (.iload_n 2, 1) := by decide +kernel
theorem dc_Rdr_atom_46 : decode prog_5_method_9_code 46 = .ok (.lookupswitch 99 #[(36, 66), (40, 93), (46, 74), (91, 88), (92, 79), (94, 58)], 58) := by decide +kernel
theorem dc_Rdr_atom_104 : decode prog_5_method_9_code 104 = .ok (.aload_n 0, 1) := by decide +kernel
theorem dc_Rdr_atom_105 : decode prog_5_method_9_code 105 = .ok (.iconst 1, 1) := by decide +kernel
theorem dc_Rdr_atom_106 : decode prog_5_method_9_code 106 = .ok (.iconst 0, 1) := by decide +kernel
theorem dc_Rdr_atom_107 : decode prog_5_method_9_code 107 = .ok (.iconst 0, 1) := by decide +kernel
theorem dc_Rdr_atom_108 : decode prog_5_method_9_code 108 = .ok (.invokevirtual 86, 3) := by decide +kernel
theorem dc_Rdr_atom_111 : decode prog_5_method_9_code 111 = .ok (.ireturn, 1) := by decide +kernel
theorem dc_Rdr_atom_112 : decode prog_5_method_9_code 112 = .ok (.aload_n 0, 1) := by decide +kernel
theorem dc_Rdr_atom_113 : decode prog_5_method_9_code 113 = .ok (.iconst 2, 1) := by decide +kernel
theorem dc_Rdr_atom_114 : decode prog_5_method_9_code 114 = .ok (.iconst 0, 1) := by decide +kernel
theorem dc_Rdr_atom_115 : decode prog_5_method_9_code 115 = .ok (.iconst 0, 1) := by decide +kernel
theorem dc_Rdr_atom_116 : decode prog_5_method_9_code 116 = .ok (.invokevirtual 86, 3) := by decide +kernel
theorem dc_Rdr_atom_119 : decode prog_5_method_9_code 119 = .ok (.ireturn, 1) := by decide +kernel
theorem dc_Rdr_atom_120 : decode prog_5_method_9_code 120 = .ok (.aload_n 0, 1) := by decide +kernel
theorem dc_Rdr_atom_121 : decode prog_5_method_9_code 121 = .ok (.invokevirtual 103, 3) := by decide +kernel
theorem dc_Rdr_atom_124 : decode prog_5_method_9_code 124 = .ok (.ireturn, 1) := by decide +kernel
theorem dc_Rdr_atom_125 : decode prog_5_method_9_code 125 = .ok (.aload_n 0, 1) := by decide +kernel
theorem dc_Rdr_atom_126 : decode prog_5_method_9_code 126 = .ok (.aload_n 0, 1) := by decide +kernel
theorem dc_Rdr_atom_127 : decode prog_5_method_9_code 127 = .ok (.invokevirtual 106, 3) := by decide +kernel
theorem dc_Rdr_atom_130 : decode prog_5_method_9_code 130 = .ok (.invokevirtual 109, 3) := by decide +kernel
theorem dc_Rdr_atom_133 : decode prog_5_method_9_code 133 = .ok (.ireturn, 1) := by decide +kernel
theorem dc_Rdr_atom_134 : decode prog_5_method_9_code 134 = .ok (.aload_n 0, 1) := by decide +kernel
theorem dc_Rdr_atom_135 : decode prog_5_method_9_code 135 = .ok (.invokevirtual 112, 3) := by decide +kernel
theorem dc_Rdr_atom_138 : decode prog_5_method_9_code 138 = .ok (.ireturn, 1) := by decide +kernel
theorem dc_Rdr_atom_139 : decode prog_5_method_9_code 139 = .ok (.aload_n 0, 1) := by decide +kernel
theorem dc_Rdr_atom_140 : decode prog_5_method_9_code 140 = .ok (.iload_n 1, 1) := by decide +kernel
theorem dc_Rdr_atom_141 : decode prog_5_method_9_code 141 = .ok (.invokevirtual 115, 3) := by decide +kernel
theorem dc_Rdr_atom_144 : decode prog_5_method_9_code 144 = .ok (.ireturn, 1) := by decide +kernel
theorem dc_Rdr_atom_145 : decode prog_5_method_9_code 145 = .ok (.aload_n 0, 1) := by decide +kernel
theorem dc_Rdr_atom_146 : decode prog_5_method_9_code 146 = .ok (.iload_n 2, 1) := by decide +kernel
theorem dc_Rdr_atom_147 : decode prog_5_method_9_code 147 = .ok (.invokevirtual 109, 3) := by decide +kernel
theorem dc_Rdr_atom_150 : decode prog_5_method_9_code 150 = .ok (.ireturn, 1) := by decide +kernel
theorem dc_Rdr_group_0 : decode prog_5_method_10_code 0 = .ok (.aload_n 0, 1) := by decide +kernel
theorem dc_Rdr_group_1 : decode prog_5_method_10_code 1 = .ok (.iload_n 1, 1) := by decide +kernel
theorem dc_Rdr_group_2 : decode prog_5_method_10_code 2 = .ok (.iconst 1, 1) := by decide +kernel
theorem dc_Rdr_group_3 : decode prog_5_method_10_code 3 = .ok (.iadd, 1) := by decide +kernel
theorem dc_Rdr_group_4 : decode prog_5_method_10_code 4 = .ok (.invokevirtual 61, 3) := by decide +kernel
theorem dc_Rdr_group_7 : decode prog_5_method_10_code 7 = .ok (.istore_n 2, 1) := by decide +kernel
theorem dc_Rdr_group_8 : decode prog_5_method_10_code 8 = .ok (.aload_n 0, 1) := by decide +kernel
theorem dc_Rdr_group_9 : decode prog_5_method_10_code 9 = .ok (.invokevirtual 83, 3) := by decide +kernel
theorem dc_Rdr_group_12 : decode prog_5_method_10_code 12 = .ok (.bipush 41, 2) := by decide +kernel
theorem dc_Rdr_group_14 : decode prog_5_method_10_code 14 = .ok (.if_icmp .eq 8, 3) := by decide +kernel
theorem dc_Rdr_group_17 : decode prog_5_method_10_code 17 = .ok (.aload_n 0, 1) := by decide +kernel
theorem dc_Rdr_group_18 : decode prog_5_method_10_code 18 = .ok (.invokevirtual 68, 3) := by decide +kernel
theorem dc_Rdr_group_21 : decode prog_5_method_10_code 21 = .ok (.ireturn, 1) := by decide +kernel
theorem dc_Rdr_group_22 : decode prog_5_method_10_code 22 = .ok (.aload_n 0, 1) := by decide +kernel
theorem dc_Rdr_group_23 : decode prog_5_method_10_code 23 = .ok (.dup, 1) := by decide +kernel
theorem dc_Rdr_group_24 : decode prog_5_method_10_code 24 = .ok (.getfield 48, 3) := by decide +kernel
theorem dc_Rdr_group_27 : decode prog_5_method_10_code 27 = .ok (.iconst 1, 1) := by decide +kernel
theorem dc_Rdr_group_28 : decode prog_5_method_10_code 28 = .ok (.iadd, 1) := by decide +kernel
theorem dc_Rdr_group_29 : decode prog_5_method_10_code 29 = .ok (.putfield 48, 3) := by decide +kernel
theorem dc_Rdr_group_32 : decode prog_5_method_10_code 32 = .ok (.iload_n 2, 1) := by decide +kernel
theorem dc_Rdr_group_33 : decode prog_5_method_10_code 33 = .ok (.ireturn, 1) := by decide +kernel
theorem dc_Rdr_escaped_0 : decode prog_5_method_11_code 0 = .ok (.aload_n 0, 1) := by decide +kernel
theorem dc_Rdr_escaped_1 : decode prog_5_method_11_code 1 = .ok (.invokevirtual 83, 3) := by decide +kernel
theorem dc_Rdr_escaped_4 : decode prog_5_method_11_code 4 = .ok (.istore_n 1, 1) := by decide +kernel
theorem dc_Rdr_escaped_5 : decode prog_5_method_11_code 5 = .ok (.iload_n 1, 1) := by decide +kernel
theorem dc_Rdr_escaped_6 : decode prog_5_method_11_code 6 = .ok (.ifCond .ne 11, 3) := by decide +kernel
theorem dc_Rdr_escaped_9 : decode prog_5_method_11_code 9 = .ok (.aload_n 0, 1) := by decide +kernel
theorem dc_Rdr_escaped_10 : decode prog_5_method_11_code 10 = .ok (.invokevirtual 68, 3) := by decide +kernel
theorem dc_Rdr_escaped_13 : decode prog_5_method_11_code 13 = .ok (.pop, 1) := by decide +kernel
theorem dc_Rdr_escaped_14 : decode prog_5_method_11_code 14 = .ok (.goto 13, 3) := by decide +kernel
theorem dc_Rdr_escaped_17 : decode prog_5_method_11_code 17 = .ok (.aload_n 0, 1) := by decide +kernel
theorem dc_Rdr_escaped_18 : decode prog_5_method_11_code 18 = .ok (.dup, 1) := by decide +kernel
theorem dc_Rdr_escaped_19 : decode prog_5_method_11_code 19 = .ok (.getfield 48, 3) := by decide +kernel
theorem dc_Rdr_escaped_22 : decode prog_5_method_11_code 22 = .ok (.iconst 1, 1) := by decide +kernel
theorem dc_Rdr_escaped_23 : decode prog_5_method_11_code 23 = .ok (.iadd, 1) := by decide +kernel
theorem dc_Rdr_escaped_24 : decode prog_5_method_11_code 24 = .ok (.putfield 48, 3) := by decide +kernel
theorem dc_Rdr_escaped_27 : decode prog_5_method_11_code 27 = .ok (.iload_n 1, 1) := by decide +kernel
theorem dc_Rdr_escaped_28 : decode prog_5_method_11_code 28 = .ok (.ireturn, 1) := by decide +kernel
theorem dc_Rdr_one_0 : decode prog_5_method_12_code 0 = .ok (.aload_n 0, 1) := by decide +kernel
theorem dc_Rdr_one_1 : decode prog_5_method_12_code 1 = .ok (.invokevirtual 118, 3) := by decide +kernel
theorem dc_Rdr_one_4 : decode prog_5_method_12_code 4 = .ok (.lstore_n 2, 1) := by decide +kernel
theorem dc_Rdr_one_5 : decode prog_5_method_12_code 5 = .ok (.aload_n 0, 1) := by decide +kernel
theorem dc_Rdr_one_6 : decode prog_5_method_12_code 6 = .ok (.lload_n 2, 1) := by decide +kernel
theorem dc_Rdr_one_7 : decode prog_5_method_12_code 7 = .ok (.iload_n 1, 1) := by decide +kernel
theorem dc_Rdr_one_8 : decode prog_5_method_12_code 8 = .ok (.iload_n 1, 1) := by decide +kernel
theorem dc_Rdr_one_9 : decode prog_5_method_12_code 9 = .ok (.invokevirtual 122, 3) := by decide +kernel
theorem dc_Rdr_one_12 : decode prog_5_method_12_code 12 = .ok (.aload_n 0, 1) := by decide +kernel
theorem dc_Rdr_one_13 : decode prog_5_method_12_code 13 = .ok (.iconst 3, 1) := by decide +kernel
theorem dc_Rdr_one_14 : decode prog_5_method_12_code 14 = .ok (.aload_n 0, 1) := by decide +kernel
theorem dc_Rdr_one_15 : decode prog_5_method_12_code 15 = .ok (.getfield 35, 3) := by decide +kernel
theorem dc_Rdr_one_18 : decode prog_5_method_12_code 18 = .ok (.getfield 126, 3) := by decide +kernel
theorem dc_Rdr_one_21 : decode prog_5_method_12_code 21 = .ok (.iconst 1, 1) := by decide +kernel
theorem dc_Rdr_one_22 : decode prog_5_method_12_code 22 = .ok (.isub, 1) := by decide +kernel
theorem dc_Rdr_one_23 : decode prog_5_method_12_code 23 = .ok (.iconst 0, 1) := by decide +kernel
theorem dc_Rdr_one_24 : decode prog_5_method_12_code 24 = .ok (.invokevirtual 86, 3) := by decide +kernel
theorem dc_Rdr_one_27 : decode prog_5_method_12_code 27 = .ok (.ireturn, 1) := by decide +kernel
theorem dc_Rdr_anySign_0 : decode prog_5_method_13_code 0 = .ok (.aload_n 0, 1) := by decide +kernel
theorem dc_Rdr_anySign_1 : decode prog_5_method_13_code 1 = .ok (.invokevirtual 118, 3) := by decide +kernel
theorem dc_Rdr_anySign_4 : decode prog_5_method_13_code 4 = .ok (.lstore_n 1, 1) := by decide +kernel
theorem dc_Rdr_anySign_5 : decode prog_5_method_13_code 5 = .ok (.aload_n 0, 1) := by decide +kernel
theorem dc_Rdr_anySign_6 : decode prog_5_method_13_code 6 = .ok (.lload_n 1, 1) := by decide +kernel
theorem dc_Rdr_anySign_7 : decode prog_5_method_13_code 7 = .ok (.iconst 1, 1) := by decide +kernel
theorem dc_Rdr_anySign_8 : decode prog_5_method_13_code 8 = .ok (.sipush 255, 3) := by decide +kernel
theorem dc_Rdr_anySign_11 : decode prog_5_method_13_code 11 = .ok (.invokevirtual 122, 3) := by decide +kernel
theorem dc_Rdr_anySign_14 : decode prog_5_method_13_code 14 = .ok (.aload_n 0, 1) := by decide +kernel
theorem dc_Rdr_anySign_15 : decode prog_5_method_13_code 15 = .ok (.iconst 3, 1) := by decide +kernel
theorem dc_Rdr_anySign_16 : decode prog_5_method_13_code 16 = .ok (.aload_n 0, 1) := by decide +kernel
theorem dc_Rdr_anySign_17 : decode prog_5_method_13_code 17 = .ok (.getfield 35, 3) := by decide +kernel
theorem dc_Rdr_anySign_20 : decode prog_5_method_13_code 20 = .ok (.getfield 126, 3) := by decide +kernel
theorem dc_Rdr_anySign_23 : decode prog_5_method_13_code 23 = .ok (.iconst 1, 1) := by decide +kernel
theorem dc_Rdr_anySign_24 : decode prog_5_method_13_code 24 = .ok (.isub, 1) := by decide +kernel
theorem dc_Rdr_anySign_25 : decode prog_5_method_13_code 25 = .ok (.iconst 0, 1) := by decide +kernel
theorem dc_Rdr_anySign_26 : decode prog_5_method_13_code 26 = .ok (.invokevirtual 86, 3) := by decide +kernel
theorem dc_Rdr_anySign_29 : decode prog_5_method_13_code 29 = .ok (.ireturn, 1) := by decide +kernel
theorem dc_Rdr_items_0 : decode prog_5_method_14_code 0 = .ok (.aload_n 0, 1) := by decide +kernel
theorem dc_Rdr_items_1 : decode prog_5_method_14_code 1 = .ok (.invokevirtual 118, 3) := by decide +kernel
theorem dc_Rdr_items_4 : decode prog_5_method_14_code 4 = .ok (.lstore_n 1, 1) := by decide +kernel
theorem dc_Rdr_items_5 : decode prog_5_method_14_code 5 = .ok (.aload_n 0, 1) := by decide +kernel
theorem dc_Rdr_items_6 : decode prog_5_method_14_code 6 = .ok (.invokevirtual 83, 3) := by decide +kernel
theorem dc_Rdr_items_9 : decode prog_5_method_14_code 9 = .ok (.bipush 94, 2) := by decide +kernel
theorem dc_Rdr_items_11 : decode prog_5_method_14_code 11 = .ok (.if_icmp .ne 7, 3) := by decide +kernel
theorem dc_Rdr_items_14 : decode prog_5_method_14_code 14 = .ok (.iconst 1, 1) := by decide +kernel
theorem dc_Rdr_items_15 : decode prog_5_method_14_code 15 = .ok (.goto 4, 3) := by decide +kernel
theorem dc_Rdr_items_18 : decode prog_5_method_14_code 18 = .ok (.iconst 0, 1) := by decide +kernel
theorem dc_Rdr_items_19 : decode prog_5_method_14_code 19 = .ok (.istore_n 3, 1) := by decide +kernel
theorem dc_Rdr_items_20 : decode prog_5_method_14_code 20 = .ok (.iload_n 3, 1) := by decide +kernel
theorem dc_Rdr_items_21 : decode prog_5_method_14_code 21 = .ok (.ifCond .eq 13, 3) := by decide +kernel
theorem dc_Rdr_items_24 : decode prog_5_method_14_code 24 = .ok (.aload_n 0, 1) := by decide +kernel
theorem dc_Rdr_items_25 : decode prog_5_method_14_code 25 = .ok (.dup, 1) := by decide +kernel
theorem dc_Rdr_items_26 : decode prog_5_method_14_code 26 = .ok (.getfield 48, 3) := by decide +kernel
theorem dc_Rdr_items_29 : decode prog_5_method_14_code 29 = .ok (.iconst 1, 1) := by decide +kernel
theorem dc_Rdr_items_30 : decode prog_5_method_14_code 30 = .ok (.iadd, 1) := by decide +kernel
theorem dc_Rdr_items_31 : decode prog_5_method_14_code 31 = .ok (.putfield 48, 3) := by decide +kernel
theorem dc_Rdr_items_34 : decode prog_5_method_14_code 34 = .ok (.aload_n 0, 1) := by decide +kernel
theorem dc_Rdr_items_35 : decode prog_5_method_14_code 35 = .ok (.lload_n 1, 1) := by decide +kernel
theorem dc_Rdr_items_36 : decode prog_5_method_14_code 36 = .ok (.invokevirtual 129, 3) := by decide +kernel
theorem dc_Rdr_items_39 : decode prog_5_method_14_code 39 = .ok (.iconst 0, 1) := by decide +kernel
theorem dc_Rdr_items_40 : decode prog_5_method_14_code 40 = .ok (.istore 4, 2) := by decide +kernel
theorem dc_Rdr_items_42 : decode prog_5_method_14_code 42 = .ok (.iload 4, 2) := by decide +kernel
theorem dc_Rdr_items_44 : decode prog_5_method_14_code 44 = .ok (.bipush 60, 2) := by decide +kernel
theorem dc_Rdr_items_46 : decode prog_5_method_14_code 46 = .ok (.if_icmp .ge 30, 3) := by decide +kernel
theorem dc_Rdr_items_49 : decode prog_5_method_14_code 49 = .ok (.aload_n 0, 1) := by decide +kernel
theorem dc_Rdr_items_50 : decode prog_5_method_14_code 50 = .ok (.invokevirtual 83, 3) := by decide +kernel
theorem dc_Rdr_items_53 : decode prog_5_method_14_code 53 = .ok (.ifCond .eq 23, 3) := by decide +kernel
theorem dc_Rdr_items_56 : decode prog_5_method_14_code 56 = .ok (.aload_n 0, 1) := by decide +kernel
theorem dc_Rdr_items_57 : decode prog_5_method_14_code 57 = .ok (.invokevirtual 83, 3) := by decide +kernel
theorem dc_Rdr_items_60 : decode prog_5_method_14_code 60 = .ok (.bipush 93, 2) := by decide +kernel
theorem dc_Rdr_items_62 : decode prog_5_method_14_code 62 = .ok (.if_icmp .eq 14, 3) := by decide +kernel
theorem dc_Rdr_items_65 : decode prog_5_method_14_code 65 = .ok (.aload_n 0, 1) := by decide +kernel
theorem dc_Rdr_items_66 : decode prog_5_method_14_code 66 = .ok (.lload_n 1, 1) := by decide +kernel
theorem dc_Rdr_items_67 : decode prog_5_method_14_code 67 = .ok (.invokevirtual 129, 3) := by decide +kernel
theorem dc_Rdr_items_70 : decode prog_5_method_14_code 70 = .ok (.iinc 4 1, 3) := by decide +kernel
theorem dc_Rdr_items_73 : decode prog_5_method_14_code 73 = .ok (.goto (-31), 3) := by decide +kernel
theorem dc_Rdr_items_76 : decode prog_5_method_14_code 76 = .ok (.aload_n 0, 1) := by decide +kernel
theorem dc_Rdr_items_77 : decode prog_5_method_14_code 77 = .ok (.invokevirtual 83, 3) := by decide +kernel
theorem dc_Rdr_items_80 : decode prog_5_method_14_code 80 = .ok (.bipush 93, 2) := by decide +kernel
theorem dc_Rdr_items_82 : decode prog_5_method_14_code 82 = .ok (.if_icmp .eq 8, 3) := by decide +kernel
theorem dc_Rdr_items_85 : decode prog_5_method_14_code 85 = .ok (.aload_n 0, 1) := by decide +kernel
theorem dc_Rdr_items_86 : decode prog_5_method_14_code 86 = .ok (.invokevirtual 68, 3) := by decide +kernel
theorem dc_Rdr_items_89 : decode prog_5_method_14_code 89 = .ok (.ireturn, 1) := by decide +kernel
theorem dc_Rdr_items_90 : decode prog_5_method_14_code 90 = .ok (.aload_n 0, 1) := by decide +kernel
theorem dc_Rdr_items_91 : decode prog_5_method_14_code 91 = .ok (.dup, 1) := by decide +kernel
theorem dc_Rdr_items_92 : decode prog_5_method_14_code 92 = .ok (.getfield 48, 3) := by decide +kernel
theorem dc_Rdr_items_95 : decode prog_5_method_14_code 95 = .ok (.iconst 1, 1) := by decide +kernel
theorem dc_Rdr_items_96 : decode prog_5_method_14_code 96 = .ok (.iadd, 1) := by decide +kernel
theorem dc_Rdr_items_97 : decode prog_5_method_14_code 97 = .ok (.putfield 48, 3) := by decide +kernel
theorem dc_Rdr_items_100 : decode prog_5_method_14_code 100 = .ok (.iload_n 3, 1) := by decide +kernel
theorem dc_Rdr_items_101 : decode prog_5_method_14_code 101 = .ok (.ifCond .eq 8, 3) := by decide +kernel
theorem dc_Rdr_items_104 : decode prog_5_method_14_code 104 = .ok (.aload_n 0, 1) := by decide +kernel
theorem dc_Rdr_items_105 : decode prog_5_method_14_code 105 = .ok (.lload_n 1, 1) := by decide +kernel
theorem dc_Rdr_items_106 : decode prog_5_method_14_code 106 = .ok (.invokevirtual 133, 3) := by decide +kernel
theorem dc_Rdr_items_109 : decode prog_5_method_14_code 109 = .ok (.aload_n 0, 1) := by decide +kernel
theorem dc_Rdr_items_110 : decode prog_5_method_14_code 110 = .ok (.iconst 3, 1) := by decide +kernel
theorem dc_Rdr_items_111 : decode prog_5_method_14_code 111 = .ok (.aload_n 0, 1) := by decide +kernel
theorem dc_Rdr_items_112 : decode prog_5_method_14_code 112 = .ok (.getfield 35, 3) := by decide +kernel
theorem dc_Rdr_items_115 : decode prog_5_method_14_code 115 = .ok (.getfield 126, 3) := by decide +kernel
theorem dc_Rdr_items_118 : decode prog_5_method_14_code 118 = .ok (.iconst 1, 1) := by decide +kernel
theorem dc_Rdr_items_119 : decode prog_5_method_14_code 119 = .ok (.isub, 1) := by decide +kernel
theorem dc_Rdr_items_120 : decode prog_5_method_14_code 120 = .ok (.iconst 0, 1) := by decide +kernel
theorem dc_Rdr_items_121 : decode prog_5_method_14_code 121 = .ok (.invokevirtual 86, 3) := by decide +kernel
theorem dc_Rdr_items_124 : decode prog_5_method_14_code 124 = .ok (.ireturn, 1) := by decide +kernel
theorem dc_Rdr_item_0 : decode prog_5_method_15_code 0 = .ok (.aload_n 0, 1) := by decide +kernel
theorem dc_Rdr_item_1 : decode prog_5_method_15_code 1 = .ok (.invokevirtual 83, 3) := by decide +kernel
theorem dc_Rdr_item_4 : decode prog_5_method_15_code 4 = .ok (.istore_n 3, 1) := by decide +kernel
theorem dc_Rdr_item_5 : decode prog_5_method_15_code 5 = .ok (.iload_n 3, 1) := by decide +kernel
theorem dc_Rdr_item_6 : decode prog_5_method_15_code 6 = .ok (.invokestatic 136, 3) := by decide +kernel
theorem dc_Rdr_item_9 : decode prog_5_method_15_code 9 = .ok (.ifCond .ne 9, 3) := by decide +kernel
theorem dc_Rdr_item_12 : decode prog_5_method_15_code 12 = .ok (.aload_n 0, 1) := by decide +kernel
theorem dc_Rdr_item_13 : decode prog_5_method_15_code 13 = .ok (.invokevirtual 68, 3) := by decide +kernel
theorem dc_Rdr_item_16 : decode prog_5_method_15_code 16 = .ok (.pop, 1) := by decide +kernel
theorem dc_Rdr_item_17 : decode prog_5_method_15_code 17 = .ok (.return_, 1) := by decide +kernel
theorem dc_Rdr_item_18 : decode prog_5_method_15_code 18 = .ok (.aload_n 0, 1) := by decide +kernel
theorem dc_Rdr_item_19 : decode prog_5_method_15_code 19 = .ok (.dup, 1) := by decide +kernel
theorem dc_Rdr_item_20 : decode prog_5_method_15_code 20 = .ok (.getfield 48, 3) := by decide +kernel
theorem dc_Rdr_item_23 : decode prog_5_method_15_code 23 = .ok (.iconst 1, 1) := by decide +kernel
theorem dc_Rdr_item_24 : decode prog_5_method_15_code 24 = .ok (.iadd, 1) := by decide +kernel
theorem dc_Rdr_item_25 : decode prog_5_method_15_code 25 = .ok (.putfield 48, 3) := by decide +kernel
theorem dc_Rdr_item_28 : decode prog_5_method_15_code 28 = .ok (.iload_n 3, 1) := by decide +kernel
theorem dc_Rdr_item_29 : decode prog_5_method_15_code 29 = .ok (.istore 4, 2) := by decide +kernel
theorem dc_Rdr_item_31 : decode prog_5_method_15_code 31 = .ok (.aload_n 0, 1) := by decide +kernel
theorem dc_Rdr_item_32 : decode prog_5_method_15_code 32 = .ok (.invokevirtual 83, 3) := by decide +kernel
theorem dc_Rdr_item_35 : decode prog_5_method_15_code 35 = .ok (.bipush 45, 2) := by decide +kernel
theorem dc_Rdr_item_37 : decode prog_5_method_15_code 37 = .ok (.if_icmp .ne 49, 3) := by decide +kernel
theorem dc_Rdr_item_40 : decode prog_5_method_15_code 40 = .ok (.aload_n 0, 1) := by decide +kernel
theorem dc_Rdr_item_41 : decode prog_5_method_15_code 41 = .ok (.dup, 1) := by decide +kernel
theorem dc_Rdr_item_42 : decode prog_5_method_15_code 42 = .ok (.getfield 48, 3) := by decide +kernel
theorem dc_Rdr_item_45 : decode prog_5_method_15_code 45 = .ok (.iconst 1, 1) := by decide +kernel
theorem dc_Rdr_item_46 : decode prog_5_method_15_code 46 = .ok (.iadd, 1) := by decide +kernel
theorem dc_Rdr_item_47 : decode prog_5_method_15_code 47 = .ok (.putfield 48, 3) := by decide +kernel
theorem dc_Rdr_item_50 : decode prog_5_method_15_code 50 = .ok (.aload_n 0, 1) := by decide +kernel
theorem dc_Rdr_item_51 : decode prog_5_method_15_code 51 = .ok (.invokevirtual 83, 3) := by decide +kernel
theorem dc_Rdr_item_54 : decode prog_5_method_15_code 54 = .ok (.istore 4, 2) := by decide +kernel
theorem dc_Rdr_item_56 : decode prog_5_method_15_code 56 = .ok (.iload 4, 2) := by decide +kernel
theorem dc_Rdr_item_58 : decode prog_5_method_15_code 58 = .ok (.invokestatic 136, 3) := by decide +kernel
theorem dc_Rdr_item_61 : decode prog_5_method_15_code 61 = .ok (.ifCond .eq 9, 3) := by decide +kernel
theorem dc_Rdr_item_64 : decode prog_5_method_15_code 64 = .ok (.iload 4, 2) := by decide +kernel
theorem dc_Rdr_item_66 : decode prog_5_method_15_code 66 = .ok (.iload_n 3, 1) := by decide +kernel
theorem dc_Rdr_item_67 : decode prog_5_method_15_code 67 = .ok (.if_icmp .ge 9, 3) := by decide +kernel
theorem dc_Rdr_item_70 : decode prog_5_method_15_code 70 = .ok (.aload_n 0, 1) := by decide +kernel
theorem dc_Rdr_item_71 : decode prog_5_method_15_code 71 = .ok (.invokevirtual 68, 3) := by decide +kernel
theorem dc_Rdr_item_74 : decode prog_5_method_15_code 74 = .ok (.pop, 1) := by decide +kernel
theorem dc_Rdr_item_75 : decode prog_5_method_15_code 75 = .ok (.return_, 1) := by decide +kernel
theorem dc_Rdr_item_76 : decode prog_5_method_15_code 76 = .ok (.aload_n 0, 1) := by decide +kernel
theorem dc_Rdr_item_77 : decode prog_5_method_15_code 77 = .ok (.dup, 1) := by decide +kernel
theorem dc_Rdr_item_78 : decode prog_5_method_15_code 78 = .ok (.getfield 48, 3) := by decide +kernel
theorem dc_Rdr_item_81 : decode prog_5_method_15_code 81 = .ok (.iconst 1, 1) := by decide +kernel
theorem dc_Rdr_item_82 : decode prog_5_method_15_code 82 = .ok (.iadd, 1) := by decide +kernel
theorem dc_Rdr_item_83 : decode prog_5_method_15_code 83 = .ok (.putfield 48, 3) := by decide +kernel
theorem dc_Rdr_item_86 : decode prog_5_method_15_code 86 = .ok (.aload_n 0, 1) := by decide +kernel
theorem dc_Rdr_item_87 : decode prog_5_method_15_code 87 = .ok (.lload_n 1, 1) := by decide +kernel
theorem dc_Rdr_item_88 : decode prog_5_method_15_code 88 = .ok (.iload_n 3, 1) := by decide +kernel
theorem dc_Rdr_item_89 : decode prog_5_method_15_code 89 = .ok (.iload 4, 2) := by decide +kernel
theorem dc_Rdr_item_91 : decode prog_5_method_15_code 91 = .ok (.invokevirtual 122, 3) := by decide +kernel
theorem dc_Rdr_item_94 : decode prog_5_method_15_code 94 = .ok (.return_, 1) := by decide +kernel
theorem dc_Rdr_isItemSign_0 : decode prog_5_method_16_code 0 = .ok (.iload_n 0, 1) := by decide +kernel
theorem dc_Rdr_isItemSign_1 : decode prog_5_method_16_code 1 = .ok (.ifCond .eq 25, 3) := by decide +kernel
theorem dc_Rdr_isItemSign_4 : decode prog_5_method_16_code 4 = .ok (.iload_n 0, 1) := by decide +kernel
theorem dc_Rdr_isItemSign_5 : decode prog_5_method_16_code 5 = .ok (.bipush 93, 2) := by decide +kernel
theorem dc_Rdr_isItemSign_7 : decode prog_5_method_16_code 7 = .ok (.if_icmp .eq 19, 3) := by decide +kernel
theorem dc_Rdr_isItemSign_10 : decode prog_5_method_16_code 10 = .ok (.iload_n 0, 1) := by decide +kernel
theorem dc_Rdr_isItemSign_11 : decode prog_5_method_16_code 11 = .ok (.bipush 92, 2) := by decide +kernel
theorem dc_Rdr_isItemSign_13 : decode prog_5_method_16_code 13 = .ok (.if_icmp .eq 13, 3) := by decide +kernel
theorem dc_Rdr_isItemSign_16 : decode prog_5_method_16_code 16 = .ok (.iload_n 0, 1) := by decide +kernel
theorem dc_Rdr_isItemSign_17 : decode prog_5_method_16_code 17 = .ok (.bipush 45, 2) := by decide +kernel
theorem dc_Rdr_isItemSign_19 : decode prog_5_method_16_code 19 = .ok (.if_icmp .eq 7, 3) := by decide +kernel
theorem dc_Rdr_isItemSign_22 : decode prog_5_method_16_code 22 = .ok (.iconst 1, 1) := by decide +kernel
theorem dc_Rdr_isItemSign_23 : decode prog_5_method_16_code 23 = .ok (.goto 4, 3) := by decide +kernel
theorem dc_Rdr_isItemSign_26 : decode prog_5_method_16_code 26 = .ok (.iconst 0, 1) := by decide +kernel
theorem dc_Rdr_isItemSign_27 : decode prog_5_method_16_code 27 = .ok (.ireturn, 1) := by decide +kernel
theorem dc_Rdr_next_0 : decode prog_5_method_17_code 0 = .ok (.aload_n 0, 1) := by decide +kernel
theorem dc_Rdr_next_1 : decode prog_5_method_17_code 1 = .ok (.getfield 48, 3) := by decide +kernel
theorem dc_Rdr_next_4 : decode prog_5_method_17_code 4 = .ok (.aload_n 0, 1) := by decide +kernel
theorem dc_Rdr_next_5 : decode prog_5_method_17_code 5 = .ok (.getfield 44, 3) := by decide +kernel
theorem dc_Rdr_next_8 : decode prog_5_method_17_code 8 = .ok (.getfield 65, 3) := by decide +kernel
theorem dc_Rdr_next_11 : decode prog_5_method_17_code 11 = .ok (.if_icmp .ge 18, 3) := by decide +kernel
theorem dc_Rdr_next_14 : decode prog_5_method_17_code 14 = .ok (.aload_n 0, 1) := by decide +kernel
theorem dc_Rdr_next_15 : decode prog_5_method_17_code 15 = .ok (.getfield 44, 3) := by decide +kernel
theorem dc_Rdr_next_18 : decode prog_5_method_17_code 18 = .ok (.getfield 139, 3) := by decide +kernel
theorem dc_Rdr_next_21 : decode prog_5_method_17_code 21 = .ok (.aload_n 0, 1) := by decide +kernel
theorem dc_Rdr_next_22 : decode prog_5_method_17_code 22 = .ok (.getfield 48, 3) := by decide +kernel
theorem dc_Rdr_next_25 : decode prog_5_method_17_code 25 = .ok (.iaload, 1) := by decide +kernel
theorem dc_Rdr_next_26 : decode prog_5_method_17_code 26 = .ok (.goto 4, 3) := by decide +kernel
theorem dc_Rdr_next_29 : decode prog_5_method_17_code 29 = .ok (.iconst 0, 1) := by decide +kernel
theorem dc_Rdr_next_30 : decode prog_5_method_17_code 30 = .ok (.ireturn, 1) := by decide +kernel
theorem dc_Rdr_refuse_0 : decode prog_5_method_18_code 0 = .ok (.aload_n 0, 1) := by decide +kernel
theorem dc_Rdr_refuse_1 : decode prog_5_method_18_code 1 = .ok (.getfield 52, 3) := by decide +kernel
theorem dc_Rdr_refuse_4 : decode prog_5_method_18_code 4 = .ok (.iconst (-1), 1) := by decide +kernel
theorem dc_Rdr_refuse_5 : decode prog_5_method_18_code 5 = .ok (.if_icmp .ne 11, 3) := by decide +kernel
theorem dc_Rdr_refuse_8 : decode prog_5_method_18_code 8 = .ok (.aload_n 0, 1) := by decide +kernel
theorem dc_Rdr_refuse_9 : decode prog_5_method_18_code 9 = .ok (.aload_n 0, 1) := by decide +kernel
theorem dc_Rdr_refuse_10 : decode prog_5_method_18_code 10 = .ok (.getfield 48, 3) := by decide +kernel
theorem dc_Rdr_refuse_13 : decode prog_5_method_18_code 13 = .ok (.putfield 52, 3) := by decide +kernel
theorem dc_Rdr_refuse_16 : decode prog_5_method_18_code 16 = .ok (.aload_n 0, 1) := by decide +kernel
theorem dc_Rdr_refuse_17 : decode prog_5_method_18_code 17 = .ok (.aload_n 0, 1) := by decide +kernel
theorem dc_Rdr_refuse_18 : decode prog_5_method_18_code 18 = .ok (.getfield 44, 3) := by decide +kernel
theorem dc_Rdr_refuse_21 : decode prog_5_method_18_code 21 = .ok (.getfield 65, 3) := by decide +kernel
theorem dc_Rdr_refuse_24 : decode prog_5_method_18_code 24 = .ok (.putfield 48, 3) := by decide +kernel
theorem dc_Rdr_refuse_27 : decode prog_5_method_18_code 27 = .ok (.iconst 0, 1) := by decide +kernel
theorem dc_Rdr_refuse_28 : decode prog_5_method_18_code 28 = .ok (.ireturn, 1) := by decide +kernel
theorem dc_Rdr_newAtom_0 : decode prog_5_method_19_code 0 = .ok (.aload_n 0, 1) := by decide +kernel
theorem dc_Rdr_newAtom_1 : decode prog_5_method_19_code 1 = .ok (.getfield 35, 3) := by decide +kernel
theorem dc_Rdr_newAtom_4 : decode prog_5_method_19_code 4 = .ok (.dup, 1) := by decide +kernel
theorem dc_Rdr_newAtom_5 : decode prog_5_method_19_code 5 = .ok (.getfield 126, 3) := by decide +kernel
theorem dc_Rdr_newAtom_8 : decode prog_5_method_19_code 8 = .ok (.iconst 1, 1) := by decide +kernel
theorem dc_Rdr_newAtom_9 : decode prog_5_method_19_code 9 = .ok (.iadd, 1) := by decide +kernel
theorem dc_Rdr_newAtom_10 : decode prog_5_method_19_code 10 = .ok (.putfield 126, 3) := by decide +kernel
theorem dc_Rdr_newAtom_13 : decode prog_5_method_19_code 13 = .ok (.lconst 1, 1) := by decide +kernel
theorem dc_Rdr_newAtom_14 : decode prog_5_method_19_code 14 = .ok (.aload_n 0, 1) := by decide +kernel
theorem dc_Rdr_newAtom_15 : decode prog_5_method_19_code 15 = .ok (.getfield 35, 3) := by decide +kernel
theorem dc_Rdr_newAtom_18 : decode prog_5_method_19_code 18 = .ok (.getfield 126, 3) := by decide +kernel
theorem dc_Rdr_newAtom_21 : decode prog_5_method_19_code 21 = .ok (.iconst 1, 1) := by decide +kernel
theorem dc_Rdr_newAtom_22 : decode prog_5_method_19_code 22 = .ok (.isub, 1) := by decide +kernel
theorem dc_Rdr_newAtom_23 : decode prog_5_method_19_code 23 = .ok (.lshl, 1) := by decide +kernel
theorem dc_Rdr_newAtom_24 : decode prog_5_method_19_code 24 = .ok (.lreturn, 1) := by decide +kernel
theorem dc_Rdr_take_0 : decode prog_5_method_20_code 0 = .ok (.iload_n 3, 1) := by decide +kernel
theorem dc_Rdr_take_1 : decode prog_5_method_20_code 1 = .ok (.istore 5, 2) := by decide +kernel
theorem dc_Rdr_take_3 : decode prog_5_method_20_code 3 = .ok (.iload 5, 2) := by decide +kernel
theorem dc_Rdr_take_5 : decode prog_5_method_20_code 5 = .ok (.iload 4, 2) := by decide +kernel
theorem dc_Rdr_take_7 : decode prog_5_method_20_code 7 = .ok (.if_icmp .gt 23, 3) := by decide +kernel
theorem dc_Rdr_take_10 : decode prog_5_method_20_code 10 = .ok (.aload_n 0, 1) := by decide +kernel
theorem dc_Rdr_take_11 : decode prog_5_method_20_code 11 = .ok (.getfield 35, 3) := by decide +kernel
theorem dc_Rdr_take_14 : decode prog_5_method_20_code 14 = .ok (.getfield 142, 3) := by decide +kernel
theorem dc_Rdr_take_17 : decode prog_5_method_20_code 17 = .ok (.iload 5, 2) := by decide +kernel
theorem dc_Rdr_take_19 : decode prog_5_method_20_code 19 = .ok (.dup2, 1) := by decide +kernel
theorem dc_Rdr_take_20 : decode prog_5_method_20_code 20 = .ok (.laload, 1) := by decide +kernel
theorem dc_Rdr_take_21 : decode prog_5_method_20_code 21 = .ok (.lload_n 1, 1) := by decide +kernel
theorem dc_Rdr_take_22 : decode prog_5_method_20_code 22 = .ok (.lor, 1) := by decide +kernel
theorem dc_Rdr_take_23 : decode prog_5_method_20_code 23 = .ok (.lastore, 1) := by decide +kernel
theorem dc_Rdr_take_24 : decode prog_5_method_20_code 24 = .ok (.iinc 5 1, 3) := by decide +kernel
theorem dc_Rdr_take_27 : decode prog_5_method_20_code 27 = .ok (.goto (-24), 3) := by decide +kernel
theorem dc_Rdr_take_30 : decode prog_5_method_20_code 30 = .ok (.return_, 1) := by decide +kernel
theorem dc_Rdr_takeOthers_0 : decode prog_5_method_21_code 0 = .ok (.iconst 1, 1) := by decide +kernel
theorem dc_Rdr_takeOthers_1 : decode prog_5_method_21_code 1 = .ok (.istore_n 3, 1) := by decide +kernel
theorem dc_Rdr_takeOthers_2 : decode prog_5_method_21_code 2 = .ok (.iload_n 3, 1) := by decide +kernel
theorem dc_Rdr_takeOthers_3 : decode prog_5_method_21_code 3 = .ok (.sipush 255, 3) := by decide +kernel
theorem dc_Rdr_takeOthers_6 : decode prog_5_method_21_code 6 = .ok (.if_icmp .gt 22, 3) := by decide +kernel
theorem dc_Rdr_takeOthers_9 : decode prog_5_method_21_code 9 = .ok (.aload_n 0, 1) := by decide +kernel
theorem dc_Rdr_takeOthers_10 : decode prog_5_method_21_code 10 = .ok (.getfield 35, 3) := by decide +kernel
theorem dc_Rdr_takeOthers_13 : decode prog_5_method_21_code 13 = .ok (.getfield 142, 3) := by decide +kernel
theorem dc_Rdr_takeOthers_16 : decode prog_5_method_21_code 16 = .ok (.iload_n 3, 1) := by decide +kernel
theorem dc_Rdr_takeOthers_17 : decode prog_5_method_21_code 17 = .ok (.dup2, 1) := by decide +kernel
theorem dc_Rdr_takeOthers_18 : decode prog_5_method_21_code 18 = .ok (.laload, 1) := by decide +kernel
theorem dc_Rdr_takeOthers_19 : decode prog_5_method_21_code 19 = .ok (.lload_n 1, 1) := by decide +kernel
theorem dc_Rdr_takeOthers_20 : decode prog_5_method_21_code 20 = .ok (.lxor, 1) := by decide +kernel
theorem dc_Rdr_takeOthers_21 : decode prog_5_method_21_code 21 = .ok (.lastore, 1) := by decide +kernel
theorem dc_Rdr_takeOthers_22 : decode prog_5_method_21_code 22 = .ok (.iinc 3 1, 3) := by decide +kernel
theorem dc_Rdr_takeOthers_25 : decode prog_5_method_21_code 25 = .ok (.goto (-23), 3) := by decide +kernel
theorem dc_Rdr_takeOthers_28 : decode prog_5_method_21_code 28 = .ok (.return_, 1) := by decide +kernel
theorem dc_Rdr_node_0 : decode prog_5_method_22_code 0 = .ok (.aload_n 0, 1) := by decide +kernel
theorem dc_Rdr_node_1 : decode prog_5_method_22_code 1 = .ok (.getfield 55, 3) := by decide +kernel
theorem dc_Rdr_node_4 : decode prog_5_method_22_code 4 = .ok (.bipush 121, 2) := by decide +kernel
theorem dc_Rdr_node_6 : decode prog_5_method_22_code 6 = .ok (.if_icmp .ne 8, 3) := by decide +kernel
theorem dc_Rdr_node_9 : decode prog_5_method_22_code 9 = .ok (.aload_n 0, 1) := by decide +kernel
theorem dc_Rdr_node_10 : decode prog_5_method_22_code 10 = .ok (.invokevirtual 68, 3) := by decide +kernel
theorem dc_Rdr_node_13 : decode prog_5_method_22_code 13 = .ok (.ireturn, 1) := by decide +kernel
theorem dc_Rdr_node_14 : decode prog_5_method_22_code 14 = .ok (.aload_n 0, 1) := by decide +kernel
theorem dc_Rdr_node_15 : decode prog_5_method_22_code 15 = .ok (.getfield 11, 3) := by decide +kernel
theorem dc_Rdr_node_18 : decode prog_5_method_22_code 18 = .ok (.aload_n 0, 1) := by decide +kernel
theorem dc_Rdr_node_19 : decode prog_5_method_22_code 19 = .ok (.getfield 55, 3) := by decide +kernel
theorem dc_Rdr_node_22 : decode prog_5_method_22_code 22 = .ok (.iload_n 1, 1) := by decide +kernel
theorem dc_Rdr_node_23 : decode prog_5_method_22_code 23 = .ok (.iastore, 1) := by decide +kernel
theorem dc_Rdr_node_24 : decode prog_5_method_22_code 24 = .ok (.aload_n 0, 1) := by decide +kernel
theorem dc_Rdr_node_25 : decode prog_5_method_22_code 25 = .ok (.getfield 15, 3) := by decide +kernel
theorem dc_Rdr_node_28 : decode prog_5_method_22_code 28 = .ok (.aload_n 0, 1) := by decide +kernel
theorem dc_Rdr_node_29 : decode prog_5_method_22_code 29 = .ok (.getfield 55, 3) := by decide +kernel
theorem dc_Rdr_node_32 : decode prog_5_method_22_code 32 = .ok (.iload_n 2, 1) := by decide +kernel
theorem dc_Rdr_node_33 : decode prog_5_method_22_code 33 = .ok (.iastore, 1) := by decide +kernel
theorem dc_Rdr_node_34 : decode prog_5_method_22_code 34 = .ok (.aload_n 0, 1) := by decide +kernel
theorem dc_Rdr_node_35 : decode prog_5_method_22_code 35 = .ok (.getfield 18, 3) := by decide +kernel
theorem dc_Rdr_node_38 : decode prog_5_method_22_code 38 = .ok (.aload_n 0, 1) := by decide +kernel
theorem dc_Rdr_node_39 : decode prog_5_method_22_code 39 = .ok (.getfield 55, 3) := by decide +kernel
theorem dc_Rdr_node_42 : decode prog_5_method_22_code 42 = .ok (.iload_n 3, 1) := by decide +kernel
theorem dc_Rdr_node_43 : decode prog_5_method_22_code 43 = .ok (.iastore, 1) := by decide +kernel
theorem dc_Rdr_node_44 : decode prog_5_method_22_code 44 = .ok (.aload_n 0, 1) := by decide +kernel
theorem dc_Rdr_node_45 : decode prog_5_method_22_code 45 = .ok (.dup, 1) := by decide +kernel
theorem dc_Rdr_node_46 : decode prog_5_method_22_code 46 = .ok (.getfield 55, 3) := by decide +kernel
theorem dc_Rdr_node_49 : decode prog_5_method_22_code 49 = .ok (.iconst 1, 1) := by decide +kernel
theorem dc_Rdr_node_50 : decode prog_5_method_22_code 50 = .ok (.iadd, 1) := by decide +kernel
theorem dc_Rdr_node_51 : decode prog_5_method_22_code 51 = .ok (.putfield 55, 3) := by decide +kernel
theorem dc_Rdr_node_54 : decode prog_5_method_22_code 54 = .ok (.aload_n 0, 1) := by decide +kernel
theorem dc_Rdr_node_55 : decode prog_5_method_22_code 55 = .ok (.getfield 55, 3) := by decide +kernel
theorem dc_Rdr_node_58 : decode prog_5_method_22_code 58 = .ok (.iconst 1, 1) := by decide +kernel
theorem dc_Rdr_node_59 : decode prog_5_method_22_code 59 = .ok (.isub, 1) := by decide +kernel
theorem dc_Rdr_node_60 : decode prog_5_method_22_code 60 = .ok (.ireturn, 1) := by decide +kernel
theorem dc_Rdr_weighAll_0 : decode prog_5_method_23_code 0 = .ok (.iconst 0, 1) := by decide +kernel
theorem dc_Rdr_weighAll_1 : decode prog_5_method_23_code 1 = .ok (.istore_n 2, 1) := by decide +kernel
theorem dc_Rdr_weighAll_2 : decode prog_5_method_23_code 2 = .ok (.iload_n 2, 1) := by decide +kernel
theorem dc_Rdr_weighAll_3 : decode prog_5_method_23_code 3 = .ok (.aload_n 0, 1) := by decide +kernel
theorem dc_Rdr_weighAll_4 : decode prog_5_method_23_code 4 = .ok (.getfield 55, 3) := by decide +kernel
theorem dc_Rdr_weighAll_7 : decode prog_5_method_23_code 7 = .ok (.if_icmp .ge 24, 3) := by decide +kernel
theorem dc_Rdr_weighAll_10 : decode prog_5_method_23_code 10 = .ok (.aload_n 0, 1) := by decide +kernel
theorem dc_Rdr_weighAll_11 : decode prog_5_method_23_code 11 = .ok (.iload_n 2, 1) := by decide +kernel
theorem dc_Rdr_weighAll_12 : decode prog_5_method_23_code 12 = .ok (.iload_n 1, 1) := by decide +kernel
theorem dc_Rdr_weighAll_13 : decode prog_5_method_23_code 13 = .ok (.invokevirtual 145, 3) := by decide +kernel
theorem dc_Rdr_weighAll_16 : decode prog_5_method_23_code 16 = .ok (.iload_n 1, 1) := by decide +kernel
theorem dc_Rdr_weighAll_17 : decode prog_5_method_23_code 17 = .ok (.ifCond .ne 8, 3) := by decide +kernel
theorem dc_Rdr_weighAll_20 : decode prog_5_method_23_code 20 = .ok (.aload_n 0, 1) := by decide +kernel
theorem dc_Rdr_weighAll_21 : decode prog_5_method_23_code 21 = .ok (.iload_n 2, 1) := by decide +kernel
theorem dc_Rdr_weighAll_22 : decode prog_5_method_23_code 22 = .ok (.invokevirtual 149, 3) := by decide +kernel
theorem dc_Rdr_weighAll_25 : decode prog_5_method_23_code 25 = .ok (.iinc 2 1, 3) := by decide +kernel
theorem dc_Rdr_weighAll_28 : decode prog_5_method_23_code 28 = .ok (.goto (-26), 3) := by decide +kernel
theorem dc_Rdr_weighAll_31 : decode prog_5_method_23_code 31 = .ok (.return_, 1) := by decide +kernel
theorem dc_Rdr_weigh_0 : decode prog_5_method_24_code 0 = .ok (.aload_n 0, 1) := by decide +kernel
theorem dc_Rdr_weigh_1 : decode prog_5_method_24_code 1 = .ok (.getfield 15, 3) := by decide +kernel
theorem dc_Rdr_weigh_4 : decode prog_5_method_24_code 4 = .ok (.iload_n 1, 1) := by decide +kernel
theorem dc_Rdr_weigh_5 : decode prog_5_method_24_code 5 = .ok (.iaload, 1) := by decide +kernel
theorem dc_Rdr_weigh_6 : decode prog_5_method_24_code 6 = .ok (.istore_n 3, 1) := by decide +kernel
theorem dc_Rdr_weigh_7 : decode prog_5_method_24_code 7 = .ok (.aload_n 0, 1) := by decide +kernel
theorem dc_Rdr_weigh_8 : decode prog_5_method_24_code 8 = .ok (.getfield 18, 3) := by decide +kernel
theorem dc_Rdr_weigh_11 : decode prog_5_method_24_code 11 = .ok (.iload_n 1, 1) := by decide +kernel
theorem dc_Rdr_weigh_12 : decode prog_5_method_24_code 12 = .ok (.iaload, 1) := by decide +kernel
theorem dc_Rdr_weigh_13 : decode prog_5_method_24_code 13 = .ok (.istore 4, 2) := by decide +kernel
theorem dc_Rdr_weigh_15 : decode prog_5_method_24_code 15 = .ok (.aload_n 0, 1) := by decide +kernel
theorem dc_Rdr_weigh_16 : decode prog_5_method_24_code 16 = .ok (.getfield 11, 3) := by decide +kernel
theorem dc_Rdr_weigh_19 : decode prog_5_method_24_code 19 = .ok (.iload_n 1, 1) := by decide +kernel
theorem dc_Rdr_weigh_20 : decode prog_5_method_24_code 20 = .ok (.iaload, 1) := by decide +kernel
theorem dc_Rdr_weigh_21 : decode prog_5_method_24_code 21 = .ok (.tableswitch 298 1 8 #[62, 83, 47, 104, 191, 251, 272, 251], 47) := by decide +kernel
theorem dc_Rdr_weigh_68 : decode prog_5_method_24_code 68 = .ok (.aload_n 0, 1) := by decide +kernel
theorem dc_Rdr_weigh_69 : decode prog_5_method_24_code 69 = .ok (.iload_n 1, 1) := by decide +kernel
theorem dc_Rdr_weigh_70 : decode prog_5_method_24_code 70 = .ok (.iconst 0, 1) := by decide +kernel
theorem dc_Rdr_weigh_71 : decode prog_5_method_24_code 71 = .ok (.lconst 1, 1) := by decide +kernel
theorem dc_Rdr_weigh_72 : decode prog_5_method_24_code 72 = .ok (.iload_n 3, 1) := by decide +kernel
theorem dc_Rdr_weigh_73 : decode prog_5_method_24_code 73 = .ok (.lshl, 1) := by decide +kernel
theorem dc_Rdr_weigh_74 : decode prog_5_method_24_code 74 = .ok (.lconst 1, 1) := by decide +kernel
theorem dc_Rdr_weigh_75 : decode prog_5_method_24_code 75 = .ok (.iload_n 3, 1) := by decide +kernel
theorem dc_Rdr_weigh_76 : decode prog_5_method_24_code 76 = .ok (.lshl, 1) := by decide +kernel
theorem dc_Rdr_weigh_77 : decode prog_5_method_24_code 77 = .ok (.invokevirtual 152, 3) := by decide +kernel
theorem dc_Rdr_weigh_80 : decode prog_5_method_24_code 80 = .ok (.goto 247, 3) := by decide +kernel
theorem dc_Rdr_weigh_83 : decode prog_5_method_24_code 83 = .ok (.aload_n 0, 1) := by decide +kernel
theorem dc_Rdr_weigh_84 : decode prog_5_method_24_code 84 = .ok (.iload_n 1, 1) := by decide +kernel
theorem dc_Rdr_weigh_85 : decode prog_5_method_24_code 85 = .ok (.iload_n 2, 1) := by decide +kernel
theorem dc_Rdr_weigh_86 : decode prog_5_method_24_code 86 = .ok (.iconst 1, 1) := by decide +kernel
theorem dc_Rdr_weigh_87 : decode prog_5_method_24_code 87 = .ok (.iand, 1) := by decide +kernel
theorem dc_Rdr_weigh_88 : decode prog_5_method_24_code 88 = .ok (.ifCond .eq 7, 3) := by decide +kernel
theorem dc_Rdr_weigh_91 : decode prog_5_method_24_code 91 = .ok (.iconst 1, 1) := by decide +kernel
theorem dc_Rdr_weigh_92 : decode prog_5_method_24_code 92 = .ok (.goto 4, 3) := by decide +kernel
theorem dc_Rdr_weigh_95 : decode prog_5_method_24_code 95 = .ok (.iconst 0, 1) := by decide +kernel
theorem dc_Rdr_weigh_96 : decode prog_5_method_24_code 96 = .ok (.lconst 0, 1) := by decide +kernel
theorem dc_Rdr_weigh_97 : decode prog_5_method_24_code 97 = .ok (.lconst 0, 1) := by decide +kernel
theorem dc_Rdr_weigh_98 : decode prog_5_method_24_code 98 = .ok (.invokevirtual 152, 3) := by decide +kernel
theorem dc_Rdr_weigh_101 : decode prog_5_method_24_code 101 = .ok (.goto 226, 3) := by decide +kernel
theorem dc_Rdr_weigh_104 : decode prog_5_method_24_code 104 = .ok (.aload_n 0, 1) := by decide +kernel
theorem dc_Rdr_weigh_105 : decode prog_5_method_24_code 105 = .ok (.iload_n 1, 1) := by decide +kernel
theorem dc_Rdr_weigh_106 : decode prog_5_method_24_code 106 = .ok (.iload_n 2, 1) := by decide +kernel
theorem dc_Rdr_weigh_107 : decode prog_5_method_24_code 107 = .ok (.iconst 2, 1) := by decide +kernel
theorem dc_Rdr_weigh_108 : decode prog_5_method_24_code 108 = .ok (.iand, 1) := by decide +kernel
theorem dc_Rdr_weigh_109 : decode prog_5_method_24_code 109 = .ok (.ifCond .eq 7, 3) := by decide +kernel
theorem dc_Rdr_weigh_112 : decode prog_5_method_24_code 112 = .ok (.iconst 1, 1) := by decide +kernel
theorem dc_Rdr_weigh_113 : decode prog_5_method_24_code 113 = .ok (.goto 4, 3) := by decide +kernel
theorem dc_Rdr_weigh_116 : decode prog_5_method_24_code 116 = .ok (.iconst 0, 1) := by decide +kernel
theorem dc_Rdr_weigh_117 : decode prog_5_method_24_code 117 = .ok (.lconst 0, 1) := by decide +kernel
theorem dc_Rdr_weigh_118 : decode prog_5_method_24_code 118 = .ok (.lconst 0, 1) := by decide +kernel
theorem dc_Rdr_weigh_119 : decode prog_5_method_24_code 119 = .ok (.invokevirtual 152, 3) := by decide +kernel
theorem dc_Rdr_weigh_122 : decode prog_5_method_24_code 122 = .ok (.goto 205, 3) := by decide +kernel
theorem dc_Rdr_weigh_125 : decode prog_5_method_24_code 125 = .ok (.aload_n 0, 1) := by decide +kernel
theorem dc_Rdr_weigh_126 : decode prog_5_method_24_code 126 = .ok (.iload_n 1, 1) := by decide +kernel
theorem dc_Rdr_weigh_127 : decode prog_5_method_24_code 127 = .ok (.aload_n 0, 1) := by decide +kernel
theorem dc_Rdr_weigh_128 : decode prog_5_method_24_code 128 = .ok (.getfield 21, 3) := by decide +kernel
theorem dc_Rdr_weigh_131 : decode prog_5_method_24_code 131 = .ok (.iload_n 3, 1) := by decide +kernel
theorem dc_Rdr_weigh_132 : decode prog_5_method_24_code 132 = .ok (.baload, 1) := by decide +kernel
theorem dc_Rdr_weigh_133 : decode prog_5_method_24_code 133 = .ok (.ifCond .eq 17, 3) := by decide +kernel
theorem dc_Rdr_weigh_136 : decode prog_5_method_24_code 136 = .ok (.aload_n 0, 1) := by decide +kernel
theorem dc_Rdr_weigh_137 : decode prog_5_method_24_code 137 = .ok (.getfield 21, 3) := by decide +kernel
theorem dc_Rdr_weigh_140 : decode prog_5_method_24_code 140 = .ok (.iload 4, 2) := by decide +kernel
theorem dc_Rdr_weigh_142 : decode prog_5_method_24_code 142 = .ok (.baload, 1) := by decide +kernel
theorem dc_Rdr_weigh_143 : decode prog_5_method_24_code 143 = .ok (.ifCond .eq 7, 3) := by decide +kernel
theorem dc_Rdr_weigh_146 : decode prog_5_method_24_code 146 = .ok (.iconst 1, 1) := by decide +kernel
theorem dc_Rdr_weigh_147 : decode prog_5_method_24_code 147 = .ok (.goto 4, 3) := by decide +kernel
theorem dc_Rdr_weigh_150 : decode prog_5_method_24_code 150 = .ok (.iconst 0, 1) := by decide +kernel
theorem dc_Rdr_weigh_151 : decode prog_5_method_24_code 151 = .ok (.aload_n 0, 1) := by decide +kernel
theorem dc_Rdr_weigh_152 : decode prog_5_method_24_code 152 = .ok (.getfield 25, 3) := by decide +kernel
theorem dc_Rdr_weigh_155 : decode prog_5_method_24_code 155 = .ok (.iload_n 3, 1) := by decide +kernel
theorem dc_Rdr_weigh_156 : decode prog_5_method_24_code 156 = .ok (.laload, 1) := by decide +kernel
theorem dc_Rdr_weigh_157 : decode prog_5_method_24_code 157 = .ok (.aload_n 0, 1) := by decide +kernel
theorem dc_Rdr_weigh_158 : decode prog_5_method_24_code 158 = .ok (.getfield 21, 3) := by decide +kernel
theorem dc_Rdr_weigh_161 : decode prog_5_method_24_code 161 = .ok (.iload_n 3, 1) := by decide +kernel
theorem dc_Rdr_weigh_162 : decode prog_5_method_24_code 162 = .ok (.baload, 1) := by decide +kernel
theorem dc_Rdr_weigh_163 : decode prog_5_method_24_code 163 = .ok (.ifCond .eq 13, 3) := by decide +kernel
theorem dc_Rdr_weigh_166 : decode prog_5_method_24_code 166 = .ok (.aload_n 0, 1) := by decide +kernel
theorem dc_Rdr_weigh_167 : decode prog_5_method_24_code 167 = .ok (.getfield 25, 3) := by decide +kernel
theorem dc_Rdr_weigh_170 : decode prog_5_method_24_code 170 = .ok (.iload 4, 2) := by decide +kernel
theorem dc_Rdr_weigh_172 : decode prog_5_method_24_code 172 = .ok (.laload, 1) := by decide +kernel
theorem dc_Rdr_weigh_173 : decode prog_5_method_24_code 173 = .ok (.goto 4, 3) := by decide +kernel
theorem dc_Rdr_weigh_176 : decode prog_5_method_24_code 176 = .ok (.lconst 0, 1) := by decide +kernel
theorem dc_Rdr_weigh_177 : decode prog_5_method_24_code 177 = .ok (.lor, 1) := by decide +kernel
theorem dc_Rdr_weigh_178 : decode prog_5_method_24_code 178 = .ok (.aload_n 0, 1) := by decide +kernel
theorem dc_Rdr_weigh_179 : decode prog_5_method_24_code 179 = .ok (.getfield 29, 3) := by decide +kernel
theorem dc_Rdr_weigh_182 : decode prog_5_method_24_code 182 = .ok (.iload 4, 2) := by decide +kernel
theorem dc_Rdr_weigh_184 : decode prog_5_method_24_code 184 = .ok (.laload, 1) := by decide +kernel
theorem dc_Rdr_weigh_185 : decode prog_5_method_24_code 185 = .ok (.aload_n 0, 1) := by decide +kernel
theorem dc_Rdr_weigh_186 : decode prog_5_method_24_code 186 = .ok (.getfield 21, 3) := by decide +kernel
theorem dc_Rdr_weigh_189 : decode prog_5_method_24_code 189 = .ok (.iload 4, 2) := by decide +kernel
theorem dc_Rdr_weigh_191 : decode prog_5_method_24_code 191 = .ok (.baload, 1) := by decide +kernel
theorem dc_Rdr_weigh_192 : decode prog_5_method_24_code 192 = .ok (.ifCond .eq 12, 3) := by decide +kernel
theorem dc_Rdr_weigh_195 : decode prog_5_method_24_code 195 = .ok (.aload_n 0, 1) := by decide +kernel
theorem dc_Rdr_weigh_196 : decode prog_5_method_24_code 196 = .ok (.getfield 29, 3) := by decide +kernel
theorem dc_Rdr_weigh_199 : decode prog_5_method_24_code 199 = .ok (.iload_n 3, 1) := by decide +kernel
theorem dc_Rdr_weigh_200 : decode prog_5_method_24_code 200 = .ok (.laload, 1) := by decide +kernel
theorem dc_Rdr_weigh_201 : decode prog_5_method_24_code 201 = .ok (.goto 4, 3) := by decide +kernel
theorem dc_Rdr_weigh_204 : decode prog_5_method_24_code 204 = .ok (.lconst 0, 1) := by decide +kernel
theorem dc_Rdr_weigh_205 : decode prog_5_method_24_code 205 = .ok (.lor, 1) := by decide +kernel
theorem dc_Rdr_weigh_206 : decode prog_5_method_24_code 206 = .ok (.invokevirtual 152, 3) := by decide +kernel
theorem dc_Rdr_weigh_209 : decode prog_5_method_24_code 209 = .ok (.goto 118, 3) := by decide +kernel
theorem dc_Rdr_weigh_212 : decode prog_5_method_24_code 212 = .ok (.aload_n 0, 1) := by decide +kernel
theorem dc_Rdr_weigh_213 : decode prog_5_method_24_code 213 = .ok (.iload_n 1, 1) := by decide +kernel
theorem dc_Rdr_weigh_214 : decode prog_5_method_24_code 214 = .ok (.aload_n 0, 1) := by decide +kernel
theorem dc_Rdr_weigh_215 : decode prog_5_method_24_code 215 = .ok (.getfield 21, 3) := by decide +kernel
theorem dc_Rdr_weigh_218 : decode prog_5_method_24_code 218 = .ok (.iload_n 3, 1) := by decide +kernel
theorem dc_Rdr_weigh_219 : decode prog_5_method_24_code 219 = .ok (.baload, 1) := by decide +kernel
theorem dc_Rdr_weigh_220 : decode prog_5_method_24_code 220 = .ok (.ifCond .ne 13, 3) := by decide +kernel
theorem dc_Rdr_weigh_223 : decode prog_5_method_24_code 223 = .ok (.aload_n 0, 1) := by decide +kernel
theorem dc_Rdr_weigh_224 : decode prog_5_method_24_code 224 = .ok (.getfield 21, 3) := by decide +kernel
theorem dc_Rdr_weigh_227 : decode prog_5_method_24_code 227 = .ok (.iload 4, 2) := by decide +kernel
theorem dc_Rdr_weigh_229 : decode prog_5_method_24_code 229 = .ok (.baload, 1) := by decide +kernel
theorem dc_Rdr_weigh_230 : decode prog_5_method_24_code 230 = .ok (.ifCond .eq 7, 3) := by decide +kernel
theorem dc_Rdr_weigh_233 : decode prog_5_method_24_code 233 = .ok (.iconst 1, 1) := by decide +kernel
theorem dc_Rdr_weigh_234 : decode prog_5_method_24_code 234 = .ok (.goto 4, 3) := by decide +kernel
theorem dc_Rdr_weigh_237 : decode prog_5_method_24_code 237 = .ok (.iconst 0, 1) := by decide +kernel
theorem dc_Rdr_weigh_238 : decode prog_5_method_24_code 238 = .ok (.aload_n 0, 1) := by decide +kernel
theorem dc_Rdr_weigh_239 : decode prog_5_method_24_code 239 = .ok (.getfield 25, 3) := by decide +kernel
theorem dc_Rdr_weigh_242 : decode prog_5_method_24_code 242 = .ok (.iload_n 3, 1) := by decide +kernel
theorem dc_Rdr_weigh_243 : decode prog_5_method_24_code 243 = .ok (.laload, 1) := by decide +kernel
theorem dc_Rdr_weigh_244 : decode prog_5_method_24_code 244 = .ok (.aload_n 0, 1) := by decide +kernel
theorem dc_Rdr_weigh_245 : decode prog_5_method_24_code 245 = .ok (.getfield 25, 3) := by decide +kernel
theorem dc_Rdr_weigh_248 : decode prog_5_method_24_code 248 = .ok (.iload 4, 2) := by decide +kernel
theorem dc_Rdr_weigh_250 : decode prog_5_method_24_code 250 = .ok (.laload, 1) := by decide +kernel
theorem dc_Rdr_weigh_251 : decode prog_5_method_24_code 251 = .ok (.lor, 1) := by decide +kernel
theorem dc_Rdr_weigh_252 : decode prog_5_method_24_code 252 = .ok (.aload_n 0, 1) := by decide +kernel
theorem dc_Rdr_weigh_253 : decode prog_5_method_24_code 253 = .ok (.getfield 29, 3) := by decide +kernel
theorem dc_Rdr_weigh_256 : decode prog_5_method_24_code 256 = .ok (.iload_n 3, 1) := by decide +kernel
theorem dc_Rdr_weigh_257 : decode prog_5_method_24_code 257 = .ok (.laload, 1) := by decide +kernel
theorem dc_Rdr_weigh_258 : decode prog_5_method_24_code 258 = .ok (.aload_n 0, 1) := by decide +kernel
theorem dc_Rdr_weigh_259 : decode prog_5_method_24_code 259 = .ok (.getfield 29, 3) := by decide +kernel
theorem dc_Rdr_weigh_262 : decode prog_5_method_24_code 262 = .ok (.iload 4, 2) := by decide +kernel
theorem dc_Rdr_weigh_264 : decode prog_5_method_24_code 264 = .ok (.laload, 1) := by decide +kernel
theorem dc_Rdr_weigh_265 : decode prog_5_method_24_code 265 = .ok (.lor, 1) := by decide +kernel
theorem dc_Rdr_weigh_266 : decode prog_5_method_24_code 266 = .ok (.invokevirtual 152, 3) := by decide +kernel
theorem dc_Rdr_weigh_269 : decode prog_5_method_24_code 269 = .ok (.goto 58, 3) := by decide +kernel
theorem dc_Rdr_weigh_272 : decode prog_5_method_24_code 272 = .ok (.aload_n 0, 1) := by decide +kernel
theorem dc_Rdr_weigh_273 : decode prog_5_method_24_code 273 = .ok (.iload_n 1, 1) := by decide +kernel
theorem dc_Rdr_weigh_274 : decode prog_5_method_24_code 274 = .ok (.iconst 1, 1) := by decide +kernel
theorem dc_Rdr_weigh_275 : decode prog_5_method_24_code 275 = .ok (.aload_n 0, 1) := by decide +kernel
theorem dc_Rdr_weigh_276 : decode prog_5_method_24_code 276 = .ok (.getfield 25, 3) := by decide +kernel
theorem dc_Rdr_weigh_279 : decode prog_5_method_24_code 279 = .ok (.iload_n 3, 1) := by decide +kernel
theorem dc_Rdr_weigh_280 : decode prog_5_method_24_code 280 = .ok (.laload, 1) := by decide +kernel
theorem dc_Rdr_weigh_281 : decode prog_5_method_24_code 281 = .ok (.aload_n 0, 1) := by decide +kernel
theorem dc_Rdr_weigh_282 : decode prog_5_method_24_code 282 = .ok (.getfield 29, 3) := by decide +kernel
theorem dc_Rdr_weigh_285 : decode prog_5_method_24_code 285 = .ok (.iload_n 3, 1) := by decide +kernel
theorem dc_Rdr_weigh_286 : decode prog_5_method_24_code 286 = .ok (.laload, 1) := by decide +kernel
theorem dc_Rdr_weigh_287 : decode prog_5_method_24_code 287 = .ok (.invokevirtual 152, 3) := by decide +kernel
theorem dc_Rdr_weigh_290 : decode prog_5_method_24_code 290 = .ok (.goto 37, 3) := by decide +kernel
theorem dc_Rdr_weigh_293 : decode prog_5_method_24_code 293 = .ok (.aload_n 0, 1) := by decide +kernel
theorem dc_Rdr_weigh_294 : decode prog_5_method_24_code 294 = .ok (.iload_n 1, 1) := by decide +kernel
theorem dc_Rdr_weigh_295 : decode prog_5_method_24_code 295 = .ok (.aload_n 0, 1) := by decide +kernel
theorem dc_Rdr_weigh_296 : decode prog_5_method_24_code 296 = .ok (.getfield 21, 3) := by decide +kernel
theorem dc_Rdr_weigh_299 : decode prog_5_method_24_code 299 = .ok (.iload_n 3, 1) := by decide +kernel
theorem dc_Rdr_weigh_300 : decode prog_5_method_24_code 300 = .ok (.baload, 1) := by decide +kernel
theorem dc_Rdr_weigh_301 : decode prog_5_method_24_code 301 = .ok (.aload_n 0, 1) := by decide +kernel
theorem dc_Rdr_weigh_302 : decode prog_5_method_24_code 302 = .ok (.getfield 25, 3) := by decide +kernel
theorem dc_Rdr_weigh_305 : decode prog_5_method_24_code 305 = .ok (.iload_n 3, 1) := by decide +kernel
theorem dc_Rdr_weigh_306 : decode prog_5_method_24_code 306 = .ok (.laload, 1) := by decide +kernel
theorem dc_Rdr_weigh_307 : decode prog_5_method_24_code 307 = .ok (.aload_n 0, 1) := by decide +kernel
theorem dc_Rdr_weigh_308 : decode prog_5_method_24_code 308 = .ok (.getfield 29, 3) := by decide +kernel
theorem dc_Rdr_weigh_311 : decode prog_5_method_24_code 311 = .ok (.iload_n 3, 1) := by decide +kernel
theorem dc_Rdr_weigh_312 : decode prog_5_method_24_code 312 = .ok (.laload, 1) := by decide +kernel
theorem dc_Rdr_weigh_313 : decode prog_5_method_24_code 313 = .ok (.invokevirtual 152, 3) := by decide +kernel
theorem dc_Rdr_weigh_316 : decode prog_5_method_24_code 316 = .ok (.goto 11, 3) := by decide +kernel
theorem dc_Rdr_weigh_319 : decode prog_5_method_24_code 319 = .ok (.aload_n 0, 1) := by decide +kernel
theorem dc_Rdr_weigh_320 : decode prog_5_method_24_code 320 = .ok (.iload_n 1, 1) := by decide +kernel
theorem dc_Rdr_weigh_321 : decode prog_5_method_24_code 321 = .ok (.iconst 1, 1) := by decide +kernel
theorem dc_Rdr_weigh_322 : decode prog_5_method_24_code 322 = .ok (.lconst 0, 1) := by decide +kernel
theorem dc_Rdr_weigh_323 : decode prog_5_method_24_code 323 = .ok (.lconst 0, 1) := by decide +kernel
theorem dc_Rdr_weigh_324 : decode prog_5_method_24_code 324 = .ok (.invokevirtual 152, 3) := by decide +kernel
theorem dc_Rdr_weigh_327 : decode prog_5_method_24_code 327 = .ok (.return_, 1) := by decide +kernel
theorem dc_Rdr_set_0 : decode prog_5_method_25_code 0 = .ok (.aload_n 0, 1) := by decide +kernel
theorem dc_Rdr_set_1 : decode prog_5_method_25_code 1 = .ok (.getfield 21, 3) := by decide +kernel
theorem dc_Rdr_set_4 : decode prog_5_method_25_code 4 = .ok (.iload_n 1, 1) := by decide +kernel
theorem dc_Rdr_set_5 : decode prog_5_method_25_code 5 = .ok (.iload_n 2, 1) := by decide +kernel
theorem dc_Rdr_set_6 : decode prog_5_method_25_code 6 = .ok (.bastore, 1) := by decide +kernel
theorem dc_Rdr_set_7 : decode prog_5_method_25_code 7 = .ok (.aload_n 0, 1) := by decide +kernel
theorem dc_Rdr_set_8 : decode prog_5_method_25_code 8 = .ok (.getfield 25, 3) := by decide +kernel
theorem dc_Rdr_set_11 : decode prog_5_method_25_code 11 = .ok (.iload_n 1, 1) := by decide +kernel
theorem dc_Rdr_set_12 : decode prog_5_method_25_code 12 = .ok (.lload_n 3, 1) := by decide +kernel
theorem dc_Rdr_set_13 : decode prog_5_method_25_code 13 = .ok (.lastore, 1) := by decide +kernel
theorem dc_Rdr_set_14 : decode prog_5_method_25_code 14 = .ok (.aload_n 0, 1) := by decide +kernel
theorem dc_Rdr_set_15 : decode prog_5_method_25_code 15 = .ok (.getfield 29, 3) := by decide +kernel
theorem dc_Rdr_set_18 : decode prog_5_method_25_code 18 = .ok (.iload_n 1, 1) := by decide +kernel
theorem dc_Rdr_set_19 : decode prog_5_method_25_code 19 = .ok (.lload 5, 2) := by decide +kernel
theorem dc_Rdr_set_21 : decode prog_5_method_25_code 21 = .ok (.lastore, 1) := by decide +kernel
theorem dc_Rdr_set_22 : decode prog_5_method_25_code 22 = .ok (.return_, 1) := by decide +kernel
theorem dc_Rdr_link_0 : decode prog_5_method_26_code 0 = .ok (.aload_n 0, 1) := by decide +kernel
theorem dc_Rdr_link_1 : decode prog_5_method_26_code 1 = .ok (.getfield 11, 3) := by decide +kernel
theorem dc_Rdr_link_4 : decode prog_5_method_26_code 4 = .ok (.iload_n 1, 1) := by decide +kernel
theorem dc_Rdr_link_5 : decode prog_5_method_26_code 5 = .ok (.iaload, 1) := by decide +kernel
theorem dc_Rdr_link_6 : decode prog_5_method_26_code 6 = .ok (.iconst 4, 1) := by decide +kernel
theorem dc_Rdr_link_7 : decode prog_5_method_26_code 7 = .ok (.if_icmp .ne 32, 3) := by decide +kernel
theorem dc_Rdr_link_10 : decode prog_5_method_26_code 10 = .ok (.aload_n 0, 1) := by decide +kernel
theorem dc_Rdr_link_11 : decode prog_5_method_26_code 11 = .ok (.aload_n 0, 1) := by decide +kernel
theorem dc_Rdr_link_12 : decode prog_5_method_26_code 12 = .ok (.getfield 29, 3) := by decide +kernel
theorem dc_Rdr_link_15 : decode prog_5_method_26_code 15 = .ok (.aload_n 0, 1) := by decide +kernel
theorem dc_Rdr_link_16 : decode prog_5_method_26_code 16 = .ok (.getfield 15, 3) := by decide +kernel
theorem dc_Rdr_link_19 : decode prog_5_method_26_code 19 = .ok (.iload_n 1, 1) := by decide +kernel
theorem dc_Rdr_link_20 : decode prog_5_method_26_code 20 = .ok (.iaload, 1) := by decide +kernel
theorem dc_Rdr_link_21 : decode prog_5_method_26_code 21 = .ok (.laload, 1) := by decide +kernel
theorem dc_Rdr_link_22 : decode prog_5_method_26_code 22 = .ok (.aload_n 0, 1) := by decide +kernel
theorem dc_Rdr_link_23 : decode prog_5_method_26_code 23 = .ok (.getfield 25, 3) := by decide +kernel
theorem dc_Rdr_link_26 : decode prog_5_method_26_code 26 = .ok (.aload_n 0, 1) := by decide +kernel
theorem dc_Rdr_link_27 : decode prog_5_method_26_code 27 = .ok (.getfield 18, 3) := by decide +kernel
theorem dc_Rdr_link_30 : decode prog_5_method_26_code 30 = .ok (.iload_n 1, 1) := by decide +kernel
theorem dc_Rdr_link_31 : decode prog_5_method_26_code 31 = .ok (.iaload, 1) := by decide +kernel
theorem dc_Rdr_link_32 : decode prog_5_method_26_code 32 = .ok (.laload, 1) := by decide +kernel
theorem dc_Rdr_link_33 : decode prog_5_method_26_code 33 = .ok (.invokevirtual 156, 3) := by decide +kernel
theorem dc_Rdr_link_36 : decode prog_5_method_26_code 36 = .ok (.goto 51, 3) := by decide +kernel
theorem dc_Rdr_link_39 : decode prog_5_method_26_code 39 = .ok (.aload_n 0, 1) := by decide +kernel
theorem dc_Rdr_link_40 : decode prog_5_method_26_code 40 = .ok (.getfield 11, 3) := by decide +kernel
theorem dc_Rdr_link_43 : decode prog_5_method_26_code 43 = .ok (.iload_n 1, 1) := by decide +kernel
theorem dc_Rdr_link_44 : decode prog_5_method_26_code 44 = .ok (.iaload, 1) := by decide +kernel
theorem dc_Rdr_link_45 : decode prog_5_method_26_code 45 = .ok (.bipush 6, 2) := by decide +kernel
theorem dc_Rdr_link_47 : decode prog_5_method_26_code 47 = .ok (.if_icmp .eq 14, 3) := by decide +kernel
theorem dc_Rdr_link_50 : decode prog_5_method_26_code 50 = .ok (.aload_n 0, 1) := by decide +kernel
theorem dc_Rdr_link_51 : decode prog_5_method_26_code 51 = .ok (.getfield 11, 3) := by decide +kernel
theorem dc_Rdr_link_54 : decode prog_5_method_26_code 54 = .ok (.iload_n 1, 1) := by decide +kernel
theorem dc_Rdr_link_55 : decode prog_5_method_26_code 55 = .ok (.iaload, 1) := by decide +kernel
theorem dc_Rdr_link_56 : decode prog_5_method_26_code 56 = .ok (.bipush 7, 2) := by decide +kernel
theorem dc_Rdr_link_58 : decode prog_5_method_26_code 58 = .ok (.if_icmp .ne 29, 3) := by decide +kernel
theorem dc_Rdr_link_61 : decode prog_5_method_26_code 61 = .ok (.aload_n 0, 1) := by decide +kernel
theorem dc_Rdr_link_62 : decode prog_5_method_26_code 62 = .ok (.aload_n 0, 1) := by decide +kernel
theorem dc_Rdr_link_63 : decode prog_5_method_26_code 63 = .ok (.getfield 29, 3) := by decide +kernel
theorem dc_Rdr_link_66 : decode prog_5_method_26_code 66 = .ok (.aload_n 0, 1) := by decide +kernel
theorem dc_Rdr_link_67 : decode prog_5_method_26_code 67 = .ok (.getfield 15, 3) := by decide +kernel
theorem dc_Rdr_link_70 : decode prog_5_method_26_code 70 = .ok (.iload_n 1, 1) := by decide +kernel
theorem dc_Rdr_link_71 : decode prog_5_method_26_code 71 = .ok (.iaload, 1) := by decide +kernel
theorem dc_Rdr_link_72 : decode prog_5_method_26_code 72 = .ok (.laload, 1) := by decide +kernel
theorem dc_Rdr_link_73 : decode prog_5_method_26_code 73 = .ok (.aload_n 0, 1) := by decide +kernel
theorem dc_Rdr_link_74 : decode prog_5_method_26_code 74 = .ok (.getfield 25, 3) := by decide +kernel
theorem dc_Rdr_link_77 : decode prog_5_method_26_code 77 = .ok (.aload_n 0, 1) := by decide +kernel
theorem dc_Rdr_link_78 : decode prog_5_method_26_code 78 = .ok (.getfield 15, 3) := by decide +kernel
theorem dc_Rdr_link_81 : decode prog_5_method_26_code 81 = .ok (.iload_n 1, 1) := by decide +kernel
theorem dc_Rdr_link_82 : decode prog_5_method_26_code 82 = .ok (.iaload, 1) := by decide +kernel
theorem dc_Rdr_link_83 : decode prog_5_method_26_code 83 = .ok (.laload, 1) := by decide +kernel
theorem dc_Rdr_link_84 : decode prog_5_method_26_code 84 = .ok (.invokevirtual 156, 3) := by decide +kernel
theorem dc_Rdr_link_87 : decode prog_5_method_26_code 87 = .ok (.return_, 1) := by decide +kernel
theorem dc_Rdr_follow_0 : decode prog_5_method_27_code 0 = .ok (.iconst 0, 1) := by decide +kernel
theorem dc_Rdr_follow_1 : decode prog_5_method_27_code 1 = .ok (.istore 5, 2) := by decide +kernel
theorem dc_Rdr_follow_3 : decode prog_5_method_27_code 3 = .ok (.iload 5, 2) := by decide +kernel
theorem dc_Rdr_follow_5 : decode prog_5_method_27_code 5 = .ok (.aload_n 0, 1) := by decide +kernel
theorem dc_Rdr_follow_6 : decode prog_5_method_27_code 6 = .ok (.getfield 35, 3) := by decide +kernel
theorem dc_Rdr_follow_9 : decode prog_5_method_27_code 9 = .ok (.getfield 126, 3) := by decide +kernel
theorem dc_Rdr_follow_12 : decode prog_5_method_27_code 12 = .ok (.if_icmp .ge 34, 3) := by decide +kernel
theorem dc_Rdr_follow_15 : decode prog_5_method_27_code 15 = .ok (.lload_n 1, 1) := by decide +kernel
theorem dc_Rdr_follow_16 : decode prog_5_method_27_code 16 = .ok (.iload 5, 2) := by decide +kernel
theorem dc_Rdr_follow_18 : decode prog_5_method_27_code 18 = .ok (.lushr, 1) := by decide +kernel
theorem dc_Rdr_follow_19 : decode prog_5_method_27_code 19 = .ok (.lconst 1, 1) := by decide +kernel
theorem dc_Rdr_follow_20 : decode prog_5_method_27_code 20 = .ok (.land, 1) := by decide +kernel
theorem dc_Rdr_follow_21 : decode prog_5_method_27_code 21 = .ok (.lconst 0, 1) := by decide +kernel
theorem dc_Rdr_follow_22 : decode prog_5_method_27_code 22 = .ok (.lcmp, 1) := by decide +kernel
theorem dc_Rdr_follow_23 : decode prog_5_method_27_code 23 = .ok (.ifCond .eq 17, 3) := by decide +kernel
theorem dc_Rdr_follow_26 : decode prog_5_method_27_code 26 = .ok (.aload_n 0, 1) := by decide +kernel
theorem dc_Rdr_follow_27 : decode prog_5_method_27_code 27 = .ok (.getfield 35, 3) := by decide +kernel
theorem dc_Rdr_follow_30 : decode prog_5_method_27_code 30 = .ok (.getfield 160, 3) := by decide +kernel
theorem dc_Rdr_follow_33 : decode prog_5_method_27_code 33 = .ok (.iload 5, 2) := by decide +kernel
theorem dc_Rdr_follow_35 : decode prog_5_method_27_code 35 = .ok (.dup2, 1) := by decide +kernel
theorem dc_Rdr_follow_36 : decode prog_5_method_27_code 36 = .ok (.laload, 1) := by decide +kernel
theorem dc_Rdr_follow_37 : decode prog_5_method_27_code 37 = .ok (.lload_n 3, 1) := by decide +kernel
theorem dc_Rdr_follow_38 : decode prog_5_method_27_code 38 = .ok (.lor, 1) := by decide +kernel
theorem dc_Rdr_follow_39 : decode prog_5_method_27_code 39 = .ok (.lastore, 1) := by decide +kernel
theorem dc_Rdr_follow_40 : decode prog_5_method_27_code 40 = .ok (.iinc 5 1, 3) := by decide +kernel
theorem dc_Rdr_follow_43 : decode prog_5_method_27_code 43 = .ok (.goto (-40), 3) := by decide +kernel
theorem dc_Rdr_follow_46 : decode prog_5_method_27_code 46 = .ok (.return_, 1) := by decide +kernel
