theorem dc_Out_init_0 : decode prog_4_method_1_code 0 = .ok (.aload_n 0, 1) := by decide +kernel
theorem dc_Out_init_1 : decode prog_4_method_1_code 1 = .ok (.invokespecial 3, 3) := by decide +kernel
theorem dc_Out_init_4 : decode prog_4_method_1_code 4 = .ok (.aload_n 0, 1) := by decide +kernel
theorem dc_Out_init_5 : decode prog_4_method_1_code 5 = .ok (.sipush 1500, 3) := by decide +kernel
theorem dc_Out_init_8 : decode prog_4_method_1_code 8 = .ok (.newarray .int, 2) := by decide +kernel
theorem dc_Out_init_10 : decode prog_4_method_1_code 10 = .ok (.putfield 9, 3) := by decide +kernel
theorem dc_Out_init_13 : decode prog_4_method_1_code 13 = .ok (.return_, 1) := by decide +kernel
theorem dc_Out_print_0 : decode prog_4_method_2_code 0 = .ok (.aload_n 0, 1) := by decide +kernel
theorem dc_Out_print_1 : decode prog_4_method_2_code 1 = .ok (.aload_n 1, 1) := by decide +kernel
theorem dc_Out_print_2 : decode prog_4_method_2_code 2 = .ok (.iconst 0, 1) := by decide +kernel
theorem dc_Out_print_3 : decode prog_4_method_2_code 3 = .ok (.aload_n 1, 1) := by decide +kernel
theorem dc_Out_print_4 : decode prog_4_method_2_code 4 = .ok (.getfield 15, 3) := by decide +kernel
theorem dc_Out_print_7 : decode prog_4_method_2_code 7 = .ok (.invokevirtual 21, 3) := by decide +kernel
theorem dc_Out_print_10 : decode prog_4_method_2_code 10 = .ok (.return_, 1) := by decide +kernel
theorem dc_Out_printPart_0 : decode prog_4_method_3_code 0 = .ok (.iload_n 2, 1) := by decide +kernel
theorem dc_Out_printPart_1 : decode prog_4_method_3_code 1 = .ok (.istore 4, 2) := by decide +kernel
theorem dc_Out_printPart_3 : decode prog_4_method_3_code 3 = .ok (.iload 4, 2) := by decide +kernel
theorem dc_Out_printPart_5 : decode prog_4_method_3_code 5 = .ok (.iload_n 3, 1) := by decide +kernel
theorem dc_Out_printPart_6 : decode prog_4_method_3_code 6 = .ok (.if_icmp .ge 20, 3) := by decide +kernel
theorem dc_Out_printPart_9 : decode prog_4_method_3_code 9 = .ok (.aload_n 0, 1) := by decide +kernel
theorem dc_Out_printPart_10 : decode prog_4_method_3_code 10 = .ok (.aload_n 1, 1) := by decide +kernel
theorem dc_Out_printPart_11 : decode prog_4_method_3_code 11 = .ok (.getfield 25, 3) := by decide +kernel
theorem dc_Out_printPart_14 : decode prog_4_method_3_code 14 = .ok (.iload 4, 2) := by decide +kernel
theorem dc_Out_printPart_16 : decode prog_4_method_3_code 16 = .ok (.iaload, 1) := by decide +kernel
theorem dc_Out_printPart_17 : decode prog_4_method_3_code 17 = .ok (.invokevirtual 28, 3) := by decide +kernel
theorem dc_Out_printPart_20 : decode prog_4_method_3_code 20 = .ok (.iinc 4 1, 3) := by decide +kernel
theorem dc_Out_printPart_23 : decode prog_4_method_3_code 23 = .ok (.goto (-20), 3) := by decide +kernel
theorem dc_Out_printPart_26 : decode prog_4_method_3_code 26 = .ok (.aload_n 0, 1) := by decide +kernel
theorem dc_Out_printPart_27 : decode prog_4_method_3_code 27 = .ok (.bipush 10, 2) := by decide +kernel
theorem dc_Out_printPart_29 : decode prog_4_method_3_code 29 = .ok (.invokevirtual 28, 3) := by decide +kernel
theorem dc_Out_printPart_32 : decode prog_4_method_3_code 32 = .ok (.return_, 1) := by decide +kernel
theorem dc_Out_add_0 : decode prog_4_method_4_code 0 = .ok (.aload_n 0, 1) := by decide +kernel
theorem dc_Out_add_1 : decode prog_4_method_4_code 1 = .ok (.getfield 9, 3) := by decide +kernel
theorem dc_Out_add_4 : decode prog_4_method_4_code 4 = .ok (.aload_n 0, 1) := by decide +kernel
theorem dc_Out_add_5 : decode prog_4_method_4_code 5 = .ok (.getfield 32, 3) := by decide +kernel
theorem dc_Out_add_8 : decode prog_4_method_4_code 8 = .ok (.sipush 1500, 3) := by decide +kernel
theorem dc_Out_add_11 : decode prog_4_method_4_code 11 = .ok (.invokestatic 35, 3) := by decide +kernel
theorem dc_Out_add_14 : decode prog_4_method_4_code 14 = .ok (.iload_n 1, 1) := by decide +kernel
theorem dc_Out_add_15 : decode prog_4_method_4_code 15 = .ok (.iastore, 1) := by decide +kernel
theorem dc_Out_add_16 : decode prog_4_method_4_code 16 = .ok (.aload_n 0, 1) := by decide +kernel
theorem dc_Out_add_17 : decode prog_4_method_4_code 17 = .ok (.dup, 1) := by decide +kernel
theorem dc_Out_add_18 : decode prog_4_method_4_code 18 = .ok (.getfield 32, 3) := by decide +kernel
theorem dc_Out_add_21 : decode prog_4_method_4_code 21 = .ok (.iconst 1, 1) := by decide +kernel
theorem dc_Out_add_22 : decode prog_4_method_4_code 22 = .ok (.iadd, 1) := by decide +kernel
theorem dc_Out_add_23 : decode prog_4_method_4_code 23 = .ok (.putfield 32, 3) := by decide +kernel
theorem dc_Out_add_26 : decode prog_4_method_4_code 26 = .ok (.return_, 1) := by decide +kernel
theorem dc_Out_has_0 : decode prog_4_method_5_code 0 = .ok (.iload_n 1, 1) := by decide +kernel
theorem dc_Out_has_1 : decode prog_4_method_5_code 1 = .ok (.ifCond .lt 27, 3) := by decide +kernel
theorem dc_Out_has_4 : decode prog_4_method_5_code 4 = .ok (.iload_n 1, 1) := by decide +kernel
theorem dc_Out_has_5 : decode prog_4_method_5_code 5 = .ok (.aload_n 0, 1) := by decide +kernel
theorem dc_Out_has_6 : decode prog_4_method_5_code 6 = .ok (.getfield 32, 3) := by decide +kernel
theorem dc_Out_has_9 : decode prog_4_method_5_code 9 = .ok (.if_icmp .ge 19, 3) := by decide +kernel
theorem dc_Out_has_12 : decode prog_4_method_5_code 12 = .ok (.iload_n 1, 1) := by decide +kernel
theorem dc_Out_has_13 : decode prog_4_method_5_code 13 = .ok (.aload_n 0, 1) := by decide +kernel
theorem dc_Out_has_14 : decode prog_4_method_5_code 14 = .ok (.getfield 32, 3) := by decide +kernel
theorem dc_Out_has_17 : decode prog_4_method_5_code 17 = .ok (.sipush 1500, 3) := by decide +kernel
theorem dc_Out_has_20 : decode prog_4_method_5_code 20 = .ok (.isub, 1) := by decide +kernel
theorem dc_Out_has_21 : decode prog_4_method_5_code 21 = .ok (.if_icmp .lt 7, 3) := by decide +kernel
theorem dc_Out_has_24 : decode prog_4_method_5_code 24 = .ok (.iconst 1, 1) := by decide +kernel
theorem dc_Out_has_25 : decode prog_4_method_5_code 25 = .ok (.goto 4, 3) := by decide +kernel
theorem dc_Out_has_28 : decode prog_4_method_5_code 28 = .ok (.iconst 0, 1) := by decide +kernel
theorem dc_Out_has_29 : decode prog_4_method_5_code 29 = .ok (.ireturn, 1) := by decide +kernel
theorem dc_Out_signAt_0 : decode prog_4_method_6_code 0 = .ok (.aload_n 0, 1) := by decide +kernel
theorem dc_Out_signAt_1 : decode prog_4_method_6_code 1 = .ok (.getfield 9, 3) := by decide +kernel
theorem dc_Out_signAt_4 : decode prog_4_method_6_code 4 = .ok (.iload_n 1, 1) := by decide +kernel
theorem dc_Out_signAt_5 : decode prog_4_method_6_code 5 = .ok (.sipush 1500, 3) := by decide +kernel
theorem dc_Out_signAt_8 : decode prog_4_method_6_code 8 = .ok (.invokestatic 35, 3) := by decide +kernel
theorem dc_Out_signAt_11 : decode prog_4_method_6_code 11 = .ok (.iaload, 1) := by decide +kernel
theorem dc_Out_signAt_12 : decode prog_4_method_6_code 12 = .ok (.ireturn, 1) := by decide +kernel
theorem dc_Row_init_0 : decode prog_6_method_1_code 0 = .ok (.aload_n 0, 1) := by decide +kernel
theorem dc_Row_init_1 : decode prog_6_method_1_code 1 = .ok (.invokespecial 3, 3) := by decide +kernel
theorem dc_Row_init_4 : decode prog_6_method_1_code 4 = .ok (.aload_n 0, 1) := by decide +kernel
theorem dc_Row_init_5 : decode prog_6_method_1_code 5 = .ok (.iload_n 1, 1) := by decide +kernel
theorem dc_Row_init_6 : decode prog_6_method_1_code 6 = .ok (.newarray .int, 2) := by decide +kernel
theorem dc_Row_init_8 : decode prog_6_method_1_code 8 = .ok (.putfield 9, 3) := by decide +kernel
theorem dc_Row_init_11 : decode prog_6_method_1_code 11 = .ok (.return_, 1) := by decide +kernel
theorem dc_Row_drop_0 : decode prog_6_method_2_code 0 = .ok (.aload_n 0, 1) := by decide +kernel
theorem dc_Row_drop_1 : decode prog_6_method_2_code 1 = .ok (.iconst 0, 1) := by decide +kernel
theorem dc_Row_drop_2 : decode prog_6_method_2_code 2 = .ok (.putfield 15, 3) := by decide +kernel
theorem dc_Row_drop_5 : decode prog_6_method_2_code 5 = .ok (.return_, 1) := by decide +kernel
theorem dc_Row_has_0 : decode prog_6_method_3_code 0 = .ok (.iload_n 1, 1) := by decide +kernel
theorem dc_Row_has_1 : decode prog_6_method_3_code 1 = .ok (.ifCond .lt 15, 3) := by decide +kernel
theorem dc_Row_has_4 : decode prog_6_method_3_code 4 = .ok (.iload_n 1, 1) := by decide +kernel
theorem dc_Row_has_5 : decode prog_6_method_3_code 5 = .ok (.aload_n 0, 1) := by decide +kernel
theorem dc_Row_has_6 : decode prog_6_method_3_code 6 = .ok (.getfield 15, 3) := by decide +kernel
theorem dc_Row_has_9 : decode prog_6_method_3_code 9 = .ok (.if_icmp .ge 7, 3) := by decide +kernel
theorem dc_Row_has_12 : decode prog_6_method_3_code 12 = .ok (.iconst 1, 1) := by decide +kernel
theorem dc_Row_has_13 : decode prog_6_method_3_code 13 = .ok (.goto 4, 3) := by decide +kernel
theorem dc_Row_has_16 : decode prog_6_method_3_code 16 = .ok (.iconst 0, 1) := by decide +kernel
theorem dc_Row_has_17 : decode prog_6_method_3_code 17 = .ok (.ireturn, 1) := by decide +kernel
theorem dc_Row_add_0 : decode prog_6_method_4_code 0 = .ok (.aload_n 0, 1) := by decide +kernel
theorem dc_Row_add_1 : decode prog_6_method_4_code 1 = .ok (.getfield 15, 3) := by decide +kernel
theorem dc_Row_add_4 : decode prog_6_method_4_code 4 = .ok (.aload_n 0, 1) := by decide +kernel
theorem dc_Row_add_5 : decode prog_6_method_4_code 5 = .ok (.getfield 9, 3) := by decide +kernel
theorem dc_Row_add_8 : decode prog_6_method_4_code 8 = .ok (.arraylength, 1) := by decide +kernel
theorem dc_Row_add_9 : decode prog_6_method_4_code 9 = .ok (.if_icmp .ge 23, 3) := by decide +kernel
theorem dc_Row_add_12 : decode prog_6_method_4_code 12 = .ok (.aload_n 0, 1) := by decide +kernel
theorem dc_Row_add_13 : decode prog_6_method_4_code 13 = .ok (.getfield 9, 3) := by decide +kernel
theorem dc_Row_add_16 : decode prog_6_method_4_code 16 = .ok (.aload_n 0, 1) := by decide +kernel
theorem dc_Row_add_17 : decode prog_6_method_4_code 17 = .ok (.getfield 15, 3) := by decide +kernel
theorem dc_Row_add_20 : decode prog_6_method_4_code 20 = .ok (.iload_n 1, 1) := by decide +kernel
theorem dc_Row_add_21 : decode prog_6_method_4_code 21 = .ok (.iastore, 1) := by decide +kernel
theorem dc_Row_add_22 : decode prog_6_method_4_code 22 = .ok (.aload_n 0, 1) := by decide +kernel
theorem dc_Row_add_23 : decode prog_6_method_4_code 23 = .ok (.dup, 1) := by decide +kernel
theorem dc_Row_add_24 : decode prog_6_method_4_code 24 = .ok (.getfield 15, 3) := by decide +kernel
theorem dc_Row_add_27 : decode prog_6_method_4_code 27 = .ok (.iconst 1, 1) := by decide +kernel
theorem dc_Row_add_28 : decode prog_6_method_4_code 28 = .ok (.iadd, 1) := by decide +kernel
theorem dc_Row_add_29 : decode prog_6_method_4_code 29 = .ok (.putfield 15, 3) := by decide +kernel
theorem dc_Row_add_32 : decode prog_6_method_4_code 32 = .ok (.return_, 1) := by decide +kernel
theorem dc_Row_addPart_0 : decode prog_6_method_5_code 0 = .ok (.iload_n 3, 1) := by decide +kernel
theorem dc_Row_addPart_1 : decode prog_6_method_5_code 1 = .ok (.iload_n 2, 1) := by decide +kernel
theorem dc_Row_addPart_2 : decode prog_6_method_5_code 2 = .ok (.isub, 1) := by decide +kernel
theorem dc_Row_addPart_3 : decode prog_6_method_5_code 3 = .ok (.aload_n 0, 1) := by decide +kernel
theorem dc_Row_addPart_4 : decode prog_6_method_5_code 4 = .ok (.getfield 9, 3) := by decide +kernel
theorem dc_Row_addPart_7 : decode prog_6_method_5_code 7 = .ok (.arraylength, 1) := by decide +kernel
theorem dc_Row_addPart_8 : decode prog_6_method_5_code 8 = .ok (.aload_n 0, 1) := by decide +kernel
theorem dc_Row_addPart_9 : decode prog_6_method_5_code 9 = .ok (.getfield 15, 3) := by decide +kernel
theorem dc_Row_addPart_12 : decode prog_6_method_5_code 12 = .ok (.isub, 1) := by decide +kernel
theorem dc_Row_addPart_13 : decode prog_6_method_5_code 13 = .ok (.invokestatic 19, 3) := by decide +kernel
theorem dc_Row_addPart_16 : decode prog_6_method_5_code 16 = .ok (.istore 4, 2) := by decide +kernel
theorem dc_Row_addPart_18 : decode prog_6_method_5_code 18 = .ok (.iload 4, 2) := by decide +kernel
theorem dc_Row_addPart_20 : decode prog_6_method_5_code 20 = .ok (.ifCond .le 32, 3) := by decide +kernel
theorem dc_Row_addPart_23 : decode prog_6_method_5_code 23 = .ok (.aload_n 1, 1) := by decide +kernel
theorem dc_Row_addPart_24 : decode prog_6_method_5_code 24 = .ok (.getfield 9, 3) := by decide +kernel
theorem dc_Row_addPart_27 : decode prog_6_method_5_code 27 = .ok (.iload_n 2, 1) := by decide +kernel
theorem dc_Row_addPart_28 : decode prog_6_method_5_code 28 = .ok (.aload_n 0, 1) := by decide +kernel
theorem dc_Row_addPart_29 : decode prog_6_method_5_code 29 = .ok (.getfield 9, 3) := by decide +kernel
theorem dc_Row_addPart_32 : decode prog_6_method_5_code 32 = .ok (.aload_n 0, 1) := by decide +kernel
theorem dc_Row_addPart_33 : decode prog_6_method_5_code 33 = .ok (.getfield 15, 3) := by decide +kernel
theorem dc_Row_addPart_36 : decode prog_6_method_5_code 36 = .ok (.iload 4, 2) := by decide +kernel
theorem dc_Row_addPart_38 : decode prog_6_method_5_code 38 = .ok (.invokestatic 25, 3) := by decide +kernel
theorem dc_Row_addPart_41 : decode prog_6_method_5_code 41 = .ok (.aload_n 0, 1) := by decide +kernel
theorem dc_Row_addPart_42 : decode prog_6_method_5_code 42 = .ok (.dup, 1) := by decide +kernel
theorem dc_Row_addPart_43 : decode prog_6_method_5_code 43 = .ok (.getfield 15, 3) := by decide +kernel
theorem dc_Row_addPart_46 : decode prog_6_method_5_code 46 = .ok (.iload 4, 2) := by decide +kernel
theorem dc_Row_addPart_48 : decode prog_6_method_5_code 48 = .ok (.iadd, 1) := by decide +kernel
theorem dc_Row_addPart_49 : decode prog_6_method_5_code 49 = .ok (.putfield 15, 3) := by decide +kernel
theorem dc_Row_addPart_52 : decode prog_6_method_5_code 52 = .ok (.return_, 1) := by decide +kernel
theorem dc_Row_addAll_0 : decode prog_6_method_6_code 0 = .ok (.aload_n 0, 1) := by decide +kernel
theorem dc_Row_addAll_1 : decode prog_6_method_6_code 1 = .ok (.aload_n 1, 1) := by decide +kernel
theorem dc_Row_addAll_2 : decode prog_6_method_6_code 2 = .ok (.iconst 0, 1) := by decide +kernel
theorem dc_Row_addAll_3 : decode prog_6_method_6_code 3 = .ok (.aload_n 1, 1) := by decide +kernel
theorem dc_Row_addAll_4 : decode prog_6_method_6_code 4 = .ok (.getfield 15, 3) := by decide +kernel
theorem dc_Row_addAll_7 : decode prog_6_method_6_code 7 = .ok (.invokevirtual 31, 3) := by decide +kernel
theorem dc_Row_addAll_10 : decode prog_6_method_6_code 10 = .ok (.return_, 1) := by decide +kernel
theorem dc_Row_become_0 : decode prog_6_method_7_code 0 = .ok (.aload_n 1, 1) := by decide +kernel
theorem dc_Row_become_1 : decode prog_6_method_7_code 1 = .ok (.getfield 15, 3) := by decide +kernel
theorem dc_Row_become_4 : decode prog_6_method_7_code 4 = .ok (.aload_n 0, 1) := by decide +kernel
theorem dc_Row_become_5 : decode prog_6_method_7_code 5 = .ok (.getfield 9, 3) := by decide +kernel
theorem dc_Row_become_8 : decode prog_6_method_7_code 8 = .ok (.arraylength, 1) := by decide +kernel
theorem dc_Row_become_9 : decode prog_6_method_7_code 9 = .ok (.invokestatic 19, 3) := by decide +kernel
theorem dc_Row_become_12 : decode prog_6_method_7_code 12 = .ok (.istore_n 2, 1) := by decide +kernel
theorem dc_Row_become_13 : decode prog_6_method_7_code 13 = .ok (.aload_n 1, 1) := by decide +kernel
theorem dc_Row_become_14 : decode prog_6_method_7_code 14 = .ok (.getfield 9, 3) := by decide +kernel
theorem dc_Row_become_17 : decode prog_6_method_7_code 17 = .ok (.iconst 0, 1) := by decide +kernel
theorem dc_Row_become_18 : decode prog_6_method_7_code 18 = .ok (.aload_n 0, 1) := by decide +kernel
theorem dc_Row_become_19 : decode prog_6_method_7_code 19 = .ok (.getfield 9, 3) := by decide +kernel
theorem dc_Row_become_22 : decode prog_6_method_7_code 22 = .ok (.iconst 0, 1) := by decide +kernel
theorem dc_Row_become_23 : decode prog_6_method_7_code 23 = .ok (.iload_n 2, 1) := by decide +kernel
theorem dc_Row_become_24 : decode prog_6_method_7_code 24 = .ok (.invokestatic 25, 3) := by decide +kernel
theorem dc_Row_become_27 : decode prog_6_method_7_code 27 = .ok (.aload_n 0, 1) := by decide +kernel
theorem dc_Row_become_28 : decode prog_6_method_7_code 28 = .ok (.iload_n 2, 1) := by decide +kernel
theorem dc_Row_become_29 : decode prog_6_method_7_code 29 = .ok (.putfield 15, 3) := by decide +kernel
theorem dc_Row_become_32 : decode prog_6_method_7_code 32 = .ok (.return_, 1) := by decide +kernel
theorem dc_Row_becomeNumber_0 : decode prog_6_method_8_code 0 = .ok (.aload_n 0, 1) := by decide +kernel
theorem dc_Row_becomeNumber_1 : decode prog_6_method_8_code 1 = .ok (.invokevirtual 35, 3) := by decide +kernel
theorem dc_Row_becomeNumber_4 : decode prog_6_method_8_code 4 = .ok (.iload_n 1, 1) := by decide +kernel
theorem dc_Row_becomeNumber_5 : decode prog_6_method_8_code 5 = .ok (.i2l, 1) := by decide +kernel
theorem dc_Row_becomeNumber_6 : decode prog_6_method_8_code 6 = .ok (.lstore_n 2, 1) := by decide +kernel
theorem dc_Row_becomeNumber_7 : decode prog_6_method_8_code 7 = .ok (.lload_n 2, 1) := by decide +kernel
theorem dc_Row_becomeNumber_8 : decode prog_6_method_8_code 8 = .ok (.lconst 0, 1) := by decide +kernel
theorem dc_Row_becomeNumber_9 : decode prog_6_method_8_code 9 = .ok (.lcmp, 1) := by decide +kernel
theorem dc_Row_becomeNumber_10 : decode prog_6_method_8_code 10 = .ok (.ifCond .ge 12, 3) := by decide +kernel
theorem dc_Row_becomeNumber_13 : decode prog_6_method_8_code 13 = .ok (.aload_n 0, 1) := by decide +kernel
theorem dc_Row_becomeNumber_14 : decode prog_6_method_8_code 14 = .ok (.bipush 45, 2) := by decide +kernel
theorem dc_Row_becomeNumber_16 : decode prog_6_method_8_code 16 = .ok (.invokevirtual 38, 3) := by decide +kernel
theorem dc_Row_becomeNumber_19 : decode prog_6_method_8_code 19 = .ok (.lload_n 2, 1) := by decide +kernel
theorem dc_Row_becomeNumber_20 : decode prog_6_method_8_code 20 = .ok (.lneg, 1) := by decide +kernel
theorem dc_Row_becomeNumber_21 : decode prog_6_method_8_code 21 = .ok (.lstore_n 2, 1) := by decide +kernel
theorem dc_Row_becomeNumber_22 : decode prog_6_method_8_code 22 = .ok (.lconst 1, 1) := by decide +kernel
theorem dc_Row_becomeNumber_23 : decode prog_6_method_8_code 23 = .ok (.lstore 4, 2) := by decide +kernel
theorem dc_Row_becomeNumber_25 : decode prog_6_method_8_code 25 = .ok (.iconst 1, 1) := by decide +kernel
theorem dc_Row_becomeNumber_26 : decode prog_6_method_8_code 26 = .ok (.istore 6, 2) := by decide +kernel
theorem dc_Row_becomeNumber_28 : decode prog_6_method_8_code 28 = .ok (.iload 6, 2) := by decide +kernel
theorem dc_Row_becomeNumber_30 : decode prog_6_method_8_code 30 = .ok (.bipush 11, 2) := by decide +kernel
theorem dc_Row_becomeNumber_32 : decode prog_6_method_8_code 32 = .ok (.if_icmp .ge 28, 3) := by decide +kernel
theorem dc_Row_becomeNumber_35 : decode prog_6_method_8_code 35 = .ok (.lload 4, 2) := by decide +kernel
theorem dc_Row_becomeNumber_37 : decode prog_6_method_8_code 37 = .ok (.ldc2_w 42, 3) := by decide +kernel
theorem dc_Row_becomeNumber_40 : decode prog_6_method_8_code 40 = .ok (.lmul, 1) := by decide +kernel
theorem dc_Row_becomeNumber_41 : decode prog_6_method_8_code 41 = .ok (.lload_n 2, 1) := by decide +kernel
theorem dc_Row_becomeNumber_42 : decode prog_6_method_8_code 42 = .ok (.lcmp, 1) := by decide +kernel
theorem dc_Row_becomeNumber_43 : decode prog_6_method_8_code 43 = .ok (.ifCond .gt 17, 3) := by decide +kernel
theorem dc_Row_becomeNumber_46 : decode prog_6_method_8_code 46 = .ok (.lload 4, 2) := by decide +kernel
theorem dc_Row_becomeNumber_48 : decode prog_6_method_8_code 48 = .ok (.ldc2_w 42, 3) := by decide +kernel
theorem dc_Row_becomeNumber_51 : decode prog_6_method_8_code 51 = .ok (.lmul, 1) := by decide +kernel
theorem dc_Row_becomeNumber_52 : decode prog_6_method_8_code 52 = .ok (.lstore 4, 2) := by decide +kernel
theorem dc_Row_becomeNumber_54 : decode prog_6_method_8_code 54 = .ok (.iinc 6 1, 3) := by decide +kernel
theorem dc_Row_becomeNumber_57 : decode prog_6_method_8_code 57 = .ok (.goto (-29), 3) := by decide +kernel
theorem dc_Row_becomeNumber_60 : decode prog_6_method_8_code 60 = .ok (.iconst 0, 1) := by decide +kernel
theorem dc_Row_becomeNumber_61 : decode prog_6_method_8_code 61 = .ok (.istore 6, 2) := by decide +kernel
theorem dc_Row_becomeNumber_63 : decode prog_6_method_8_code 63 = .ok (.iload 6, 2) := by decide +kernel
theorem dc_Row_becomeNumber_65 : decode prog_6_method_8_code 65 = .ok (.bipush 11, 2) := by decide +kernel
theorem dc_Row_becomeNumber_67 : decode prog_6_method_8_code 67 = .ok (.if_icmp .ge 40, 3) := by decide +kernel
theorem dc_Row_becomeNumber_70 : decode prog_6_method_8_code 70 = .ok (.lload 4, 2) := by decide +kernel
theorem dc_Row_becomeNumber_72 : decode prog_6_method_8_code 72 = .ok (.lconst 0, 1) := by decide +kernel
theorem dc_Row_becomeNumber_73 : decode prog_6_method_8_code 73 = .ok (.lcmp, 1) := by decide +kernel
theorem dc_Row_becomeNumber_74 : decode prog_6_method_8_code 74 = .ok (.ifCond .le 33, 3) := by decide +kernel
theorem dc_Row_becomeNumber_77 : decode prog_6_method_8_code 77 = .ok (.aload_n 0, 1) := by decide +kernel
theorem dc_Row_becomeNumber_78 : decode prog_6_method_8_code 78 = .ok (.bipush 48, 2) := by decide +kernel
theorem dc_Row_becomeNumber_80 : decode prog_6_method_8_code 80 = .ok (.lload_n 2, 1) := by decide +kernel
theorem dc_Row_becomeNumber_81 : decode prog_6_method_8_code 81 = .ok (.lload 4, 2) := by decide +kernel
theorem dc_Row_becomeNumber_83 : decode prog_6_method_8_code 83 = .ok (.ldiv, 1) := by decide +kernel
theorem dc_Row_becomeNumber_84 : decode prog_6_method_8_code 84 = .ok (.ldc2_w 42, 3) := by decide +kernel
theorem dc_Row_becomeNumber_87 : decode prog_6_method_8_code 87 = .ok (.lrem, 1) := by decide +kernel
theorem dc_Row_becomeNumber_88 : decode prog_6_method_8_code 88 = .ok (.l2i, 1) := by decide +kernel
theorem dc_Row_becomeNumber_89 : decode prog_6_method_8_code 89 = .ok (.iadd, 1) := by decide +kernel
theorem dc_Row_becomeNumber_90 : decode prog_6_method_8_code 90 = .ok (.invokevirtual 38, 3) := by decide +kernel
theorem dc_Row_becomeNumber_93 : decode prog_6_method_8_code 93 = .ok (.lload 4, 2) := by decide +kernel
theorem dc_Row_becomeNumber_95 : decode prog_6_method_8_code 95 = .ok (.ldc2_w 42, 3) := by decide +kernel
theorem dc_Row_becomeNumber_98 : decode prog_6_method_8_code 98 = .ok (.ldiv, 1) := by decide +kernel
theorem dc_Row_becomeNumber_99 : decode prog_6_method_8_code 99 = .ok (.lstore 4, 2) := by decide +kernel
theorem dc_Row_becomeNumber_101 : decode prog_6_method_8_code 101 = .ok (.iinc 6 1, 3) := by decide +kernel
theorem dc_Row_becomeNumber_104 : decode prog_6_method_8_code 104 = .ok (.goto (-41), 3) := by decide +kernel
theorem dc_Row_becomeNumber_107 : decode prog_6_method_8_code 107 = .ok (.return_, 1) := by decide +kernel
theorem dc_Row_toNumber_0 : decode prog_6_method_9_code 0 = .ok (.aload_n 0, 1) := by decide +kernel
theorem dc_Row_toNumber_1 : decode prog_6_method_9_code 1 = .ok (.getfield 15, 3) := by decide +kernel
theorem dc_Row_toNumber_4 : decode prog_6_method_9_code 4 = .ok (.ifCond .le 18, 3) := by decide +kernel
theorem dc_Row_toNumber_7 : decode prog_6_method_9_code 7 = .ok (.aload_n 0, 1) := by decide +kernel
theorem dc_Row_toNumber_8 : decode prog_6_method_9_code 8 = .ok (.getfield 9, 3) := by decide +kernel
theorem dc_Row_toNumber_11 : decode prog_6_method_9_code 11 = .ok (.iconst 0, 1) := by decide +kernel
theorem dc_Row_toNumber_12 : decode prog_6_method_9_code 12 = .ok (.iaload, 1) := by decide +kernel
theorem dc_Row_toNumber_13 : decode prog_6_method_9_code 13 = .ok (.bipush 45, 2) := by decide +kernel
theorem dc_Row_toNumber_15 : decode prog_6_method_9_code 15 = .ok (.if_icmp .ne 7, 3) := by decide +kernel
theorem dc_Row_toNumber_18 : decode prog_6_method_9_code 18 = .ok (.iconst 1, 1) := by decide +kernel
theorem dc_Row_toNumber_19 : decode prog_6_method_9_code 19 = .ok (.goto 4, 3) := by decide +kernel
theorem dc_Row_toNumber_22 : decode prog_6_method_9_code 22 = .ok (.iconst 0, 1) := by decide +kernel
theorem dc_Row_toNumber_23 : decode prog_6_method_9_code 23 = .ok (.istore_n 1, 1) := by decide +kernel
theorem dc_Row_toNumber_24 : decode prog_6_method_9_code 24 = .ok (.iconst 0, 1) := by decide +kernel
theorem dc_Row_toNumber_25 : decode prog_6_method_9_code 25 = .ok (.istore_n 2, 1) := by decide +kernel
theorem dc_Row_toNumber_26 : decode prog_6_method_9_code 26 = .ok (.iload_n 1, 1) := by decide +kernel
theorem dc_Row_toNumber_27 : decode prog_6_method_9_code 27 = .ok (.ifCond .eq 7, 3) := by decide +kernel
theorem dc_Row_toNumber_30 : decode prog_6_method_9_code 30 = .ok (.iconst 1, 1) := by decide +kernel
theorem dc_Row_toNumber_31 : decode prog_6_method_9_code 31 = .ok (.goto 4, 3) := by decide +kernel
theorem dc_Row_toNumber_34 : decode prog_6_method_9_code 34 = .ok (.iconst 0, 1) := by decide +kernel
theorem dc_Row_toNumber_35 : decode prog_6_method_9_code 35 = .ok (.istore_n 3, 1) := by decide +kernel
theorem dc_Row_toNumber_36 : decode prog_6_method_9_code 36 = .ok (.iload_n 3, 1) := by decide +kernel
theorem dc_Row_toNumber_37 : decode prog_6_method_9_code 37 = .ok (.aload_n 0, 1) := by decide +kernel
theorem dc_Row_toNumber_38 : decode prog_6_method_9_code 38 = .ok (.getfield 15, 3) := by decide +kernel
theorem dc_Row_toNumber_41 : decode prog_6_method_9_code 41 = .ok (.if_icmp .ge 46, 3) := by decide +kernel
theorem dc_Row_toNumber_44 : decode prog_6_method_9_code 44 = .ok (.aload_n 0, 1) := by decide +kernel
theorem dc_Row_toNumber_45 : decode prog_6_method_9_code 45 = .ok (.getfield 9, 3) := by decide +kernel
theorem dc_Row_toNumber_48 : decode prog_6_method_9_code 48 = .ok (.iload_n 3, 1) := by decide +kernel
theorem dc_Row_toNumber_49 : decode prog_6_method_9_code 49 = .ok (.iaload, 1) := by decide +kernel
theorem dc_Row_toNumber_50 : decode prog_6_method_9_code 50 = .ok (.bipush 48, 2) := by decide +kernel
theorem dc_Row_toNumber_52 : decode prog_6_method_9_code 52 = .ok (.if_icmp .lt 35, 3) := by decide +kernel
theorem dc_Row_toNumber_55 : decode prog_6_method_9_code 55 = .ok (.aload_n 0, 1) := by decide +kernel
theorem dc_Row_toNumber_56 : decode prog_6_method_9_code 56 = .ok (.getfield 9, 3) := by decide +kernel
theorem dc_Row_toNumber_59 : decode prog_6_method_9_code 59 = .ok (.iload_n 3, 1) := by decide +kernel
theorem dc_Row_toNumber_60 : decode prog_6_method_9_code 60 = .ok (.iaload, 1) := by decide +kernel
theorem dc_Row_toNumber_61 : decode prog_6_method_9_code 61 = .ok (.bipush 57, 2) := by decide +kernel
theorem dc_Row_toNumber_63 : decode prog_6_method_9_code 63 = .ok (.if_icmp .gt 24, 3) := by decide +kernel
theorem dc_Row_toNumber_66 : decode prog_6_method_9_code 66 = .ok (.iload_n 2, 1) := by decide +kernel
theorem dc_Row_toNumber_67 : decode prog_6_method_9_code 67 = .ok (.bipush 10, 2) := by decide +kernel
theorem dc_Row_toNumber_69 : decode prog_6_method_9_code 69 = .ok (.imul, 1) := by decide +kernel
theorem dc_Row_toNumber_70 : decode prog_6_method_9_code 70 = .ok (.aload_n 0, 1) := by decide +kernel
theorem dc_Row_toNumber_71 : decode prog_6_method_9_code 71 = .ok (.getfield 9, 3) := by decide +kernel
theorem dc_Row_toNumber_74 : decode prog_6_method_9_code 74 = .ok (.iload_n 3, 1) := by decide +kernel
theorem dc_Row_toNumber_75 : decode prog_6_method_9_code 75 = .ok (.iaload, 1) := by decide +kernel
theorem dc_Row_toNumber_76 : decode prog_6_method_9_code 76 = .ok (.bipush 48, 2) := by decide +kernel
theorem dc_Row_toNumber_78 : decode prog_6_method_9_code 78 = .ok (.isub, 1) := by decide +kernel
theorem dc_Row_toNumber_79 : decode prog_6_method_9_code 79 = .ok (.iadd, 1) := by decide +kernel
theorem dc_Row_toNumber_80 : decode prog_6_method_9_code 80 = .ok (.istore_n 2, 1) := by decide +kernel
theorem dc_Row_toNumber_81 : decode prog_6_method_9_code 81 = .ok (.iinc 3 1, 3) := by decide +kernel
theorem dc_Row_toNumber_84 : decode prog_6_method_9_code 84 = .ok (.goto (-48), 3) := by decide +kernel
theorem dc_Row_toNumber_87 : decode prog_6_method_9_code 87 = .ok (.iload_n 1, 1) := by decide +kernel
theorem dc_Row_toNumber_88 : decode prog_6_method_9_code 88 = .ok (.ifCond .eq 8, 3) := by decide +kernel
theorem dc_Row_toNumber_91 : decode prog_6_method_9_code 91 = .ok (.iload_n 2, 1) := by decide +kernel
theorem dc_Row_toNumber_92 : decode prog_6_method_9_code 92 = .ok (.ineg, 1) := by decide +kernel
theorem dc_Row_toNumber_93 : decode prog_6_method_9_code 93 = .ok (.goto 4, 3) := by decide +kernel
theorem dc_Row_toNumber_96 : decode prog_6_method_9_code 96 = .ok (.iload_n 2, 1) := by decide +kernel
theorem dc_Row_toNumber_97 : decode prog_6_method_9_code 97 = .ok (.ireturn, 1) := by decide +kernel
theorem dc_Row_compareWith_0 : decode prog_6_method_10_code 0 = .ok (.aload_n 0, 1) := by decide +kernel
theorem dc_Row_compareWith_1 : decode prog_6_method_10_code 1 = .ok (.getfield 15, 3) := by decide +kernel
theorem dc_Row_compareWith_4 : decode prog_6_method_10_code 4 = .ok (.aload_n 1, 1) := by decide +kernel
theorem dc_Row_compareWith_5 : decode prog_6_method_10_code 5 = .ok (.getfield 15, 3) := by decide +kernel
theorem dc_Row_compareWith_8 : decode prog_6_method_10_code 8 = .ok (.invokestatic 19, 3) := by decide +kernel
theorem dc_Row_compareWith_11 : decode prog_6_method_10_code 11 = .ok (.istore_n 2, 1) := by decide +kernel
theorem dc_Row_compareWith_12 : decode prog_6_method_10_code 12 = .ok (.iconst 0, 1) := by decide +kernel
theorem dc_Row_compareWith_13 : decode prog_6_method_10_code 13 = .ok (.istore_n 3, 1) := by decide +kernel
theorem dc_Row_compareWith_14 : decode prog_6_method_10_code 14 = .ok (.iload_n 3, 1) := by decide +kernel
theorem dc_Row_compareWith_15 : decode prog_6_method_10_code 15 = .ok (.iload_n 2, 1) := by decide +kernel
theorem dc_Row_compareWith_16 : decode prog_6_method_10_code 16 = .ok (.if_icmp .ge 38, 3) := by decide +kernel
theorem dc_Row_compareWith_19 : decode prog_6_method_10_code 19 = .ok (.aload_n 0, 1) := by decide +kernel
theorem dc_Row_compareWith_20 : decode prog_6_method_10_code 20 = .ok (.getfield 9, 3) := by decide +kernel
theorem dc_Row_compareWith_23 : decode prog_6_method_10_code 23 = .ok (.iload_n 3, 1) := by decide +kernel
theorem dc_Row_compareWith_24 : decode prog_6_method_10_code 24 = .ok (.iaload, 1) := by decide +kernel
theorem dc_Row_compareWith_25 : decode prog_6_method_10_code 25 = .ok (.aload_n 1, 1) := by decide +kernel
theorem dc_Row_compareWith_26 : decode prog_6_method_10_code 26 = .ok (.getfield 9, 3) := by decide +kernel
theorem dc_Row_compareWith_29 : decode prog_6_method_10_code 29 = .ok (.iload_n 3, 1) := by decide +kernel
theorem dc_Row_compareWith_30 : decode prog_6_method_10_code 30 = .ok (.iaload, 1) := by decide +kernel
theorem dc_Row_compareWith_31 : decode prog_6_method_10_code 31 = .ok (.if_icmp .eq 17, 3) := by decide +kernel
theorem dc_Row_compareWith_34 : decode prog_6_method_10_code 34 = .ok (.aload_n 0, 1) := by decide +kernel
theorem dc_Row_compareWith_35 : decode prog_6_method_10_code 35 = .ok (.getfield 9, 3) := by decide +kernel
theorem dc_Row_compareWith_38 : decode prog_6_method_10_code 38 = .ok (.iload_n 3, 1) := by decide +kernel
theorem dc_Row_compareWith_39 : decode prog_6_method_10_code 39 = .ok (.iaload, 1) := by decide +kernel
theorem dc_Row_compareWith_40 : decode prog_6_method_10_code 40 = .ok (.aload_n 1, 1) := by decide +kernel
theorem dc_Row_compareWith_41 : decode prog_6_method_10_code 41 = .ok (.getfield 9, 3) := by decide +kernel
theorem dc_Row_compareWith_44 : decode prog_6_method_10_code 44 = .ok (.iload_n 3, 1) := by decide +kernel
theorem dc_Row_compareWith_45 : decode prog_6_method_10_code 45 = .ok (.iaload, 1) := by decide +kernel
theorem dc_Row_compareWith_46 : decode prog_6_method_10_code 46 = .ok (.isub, 1) := by decide +kernel
theorem dc_Row_compareWith_47 : decode prog_6_method_10_code 47 = .ok (.ireturn, 1) := by decide +kernel
theorem dc_Row_compareWith_48 : decode prog_6_method_10_code 48 = .ok (.iinc 3 1, 3) := by decide +kernel
theorem dc_Row_compareWith_51 : decode prog_6_method_10_code 51 = .ok (.goto (-37), 3) := by decide +kernel
theorem dc_Row_compareWith_54 : decode prog_6_method_10_code 54 = .ok (.aload_n 0, 1) := by decide +kernel
theorem dc_Row_compareWith_55 : decode prog_6_method_10_code 55 = .ok (.getfield 15, 3) := by decide +kernel
theorem dc_Row_compareWith_58 : decode prog_6_method_10_code 58 = .ok (.aload_n 1, 1) := by decide +kernel
theorem dc_Row_compareWith_59 : decode prog_6_method_10_code 59 = .ok (.getfield 15, 3) := by decide +kernel
theorem dc_Row_compareWith_62 : decode prog_6_method_10_code 62 = .ok (.isub, 1) := by decide +kernel
theorem dc_Row_compareWith_63 : decode prog_6_method_10_code 63 = .ok (.ireturn, 1) := by decide +kernel
theorem dc_Rul_init_0 : decode prog_7_method_1_code 0 = .ok (.aload_n 0, 1) := by decide +kernel
theorem dc_Rul_init_1 : decode prog_7_method_1_code 1 = .ok (.invokespecial 3, 3) := by decide +kernel
theorem dc_Rul_init_4 : decode prog_7_method_1_code 4 = .ok (.aload_n 0, 1) := by decide +kernel
theorem dc_Rul_init_5 : decode prog_7_method_1_code 5 = .ok (.bipush 10, 2) := by decide +kernel
theorem dc_Rul_init_7 : decode prog_7_method_1_code 7 = .ok (.newarray .int, 2) := by decide +kernel
theorem dc_Rul_init_9 : decode prog_7_method_1_code 9 = .ok (.putfield 9, 3) := by decide +kernel
theorem dc_Rul_init_12 : decode prog_7_method_1_code 12 = .ok (.aload_n 0, 1) := by decide +kernel
theorem dc_Rul_init_13 : decode prog_7_method_1_code 13 = .ok (.bipush 10, 2) := by decide +kernel
theorem dc_Rul_init_15 : decode prog_7_method_1_code 15 = .ok (.newarray .int, 2) := by decide +kernel
theorem dc_Rul_init_17 : decode prog_7_method_1_code 17 = .ok (.putfield 15, 3) := by decide +kernel
theorem dc_Rul_init_20 : decode prog_7_method_1_code 20 = .ok (.aload_n 0, 1) := by decide +kernel
theorem dc_Rul_init_21 : decode prog_7_method_1_code 21 = .ok (.bipush 10, 2) := by decide +kernel
theorem dc_Rul_init_23 : decode prog_7_method_1_code 23 = .ok (.newarray .int, 2) := by decide +kernel
theorem dc_Rul_init_25 : decode prog_7_method_1_code 25 = .ok (.putfield 18, 3) := by decide +kernel
theorem dc_Rul_init_28 : decode prog_7_method_1_code 28 = .ok (.return_, 1) := by decide +kernel
theorem dc_Rul_begin_0 : decode prog_7_method_2_code 0 = .ok (.aload_n 0, 1) := by decide +kernel
theorem dc_Rul_begin_1 : decode prog_7_method_2_code 1 = .ok (.iload_n 1, 1) := by decide +kernel
theorem dc_Rul_begin_2 : decode prog_7_method_2_code 2 = .ok (.putfield 21, 3) := by decide +kernel
theorem dc_Rul_begin_5 : decode prog_7_method_2_code 5 = .ok (.aload_n 0, 1) := by decide +kernel
theorem dc_Rul_begin_6 : decode prog_7_method_2_code 6 = .ok (.iload_n 2, 1) := by decide +kernel
theorem dc_Rul_begin_7 : decode prog_7_method_2_code 7 = .ok (.putfield 25, 3) := by decide +kernel
theorem dc_Rul_begin_10 : decode prog_7_method_2_code 10 = .ok (.aload_n 0, 1) := by decide +kernel
theorem dc_Rul_begin_11 : decode prog_7_method_2_code 11 = .ok (.iload_n 3, 1) := by decide +kernel
theorem dc_Rul_begin_12 : decode prog_7_method_2_code 12 = .ok (.putfield 28, 3) := by decide +kernel
theorem dc_Rul_begin_15 : decode prog_7_method_2_code 15 = .ok (.aload_n 0, 1) := by decide +kernel
theorem dc_Rul_begin_16 : decode prog_7_method_2_code 16 = .ok (.iconst 0, 1) := by decide +kernel
theorem dc_Rul_begin_17 : decode prog_7_method_2_code 17 = .ok (.putfield 31, 3) := by decide +kernel
theorem dc_Rul_begin_20 : decode prog_7_method_2_code 20 = .ok (.return_, 1) := by decide +kernel
theorem dc_Rul_isFull_0 : decode prog_7_method_3_code 0 = .ok (.aload_n 0, 1) := by decide +kernel
theorem dc_Rul_isFull_1 : decode prog_7_method_3_code 1 = .ok (.getfield 31, 3) := by decide +kernel
theorem dc_Rul_isFull_4 : decode prog_7_method_3_code 4 = .ok (.bipush 10, 2) := by decide +kernel
theorem dc_Rul_isFull_6 : decode prog_7_method_3_code 6 = .ok (.if_icmp .ne 7, 3) := by decide +kernel
theorem dc_Rul_isFull_9 : decode prog_7_method_3_code 9 = .ok (.iconst 1, 1) := by decide +kernel
theorem dc_Rul_isFull_10 : decode prog_7_method_3_code 10 = .ok (.goto 4, 3) := by decide +kernel
theorem dc_Rul_isFull_13 : decode prog_7_method_3_code 13 = .ok (.iconst 0, 1) := by decide +kernel
theorem dc_Rul_isFull_14 : decode prog_7_method_3_code 14 = .ok (.ireturn, 1) := by decide +kernel
theorem dc_Rul_add_0 : decode prog_7_method_4_code 0 = .ok (.aload_n 0, 1) := by decide +kernel
theorem dc_Rul_add_1 : decode prog_7_method_4_code 1 = .ok (.invokevirtual 34, 3) := by decide +kernel
theorem dc_Rul_add_4 : decode prog_7_method_4_code 4 = .ok (.ifCond .ne 43, 3) := by decide +kernel
theorem dc_Rul_add_7 : decode prog_7_method_4_code 7 = .ok (.aload_n 0, 1) := by decide +kernel
theorem dc_Rul_add_8 : decode prog_7_method_4_code 8 = .ok (.getfield 9, 3) := by decide +kernel
theorem dc_Rul_add_11 : decode prog_7_method_4_code 11 = .ok (.aload_n 0, 1) := by decide +kernel
theorem dc_Rul_add_12 : decode prog_7_method_4_code 12 = .ok (.getfield 31, 3) := by decide +kernel
theorem dc_Rul_add_15 : decode prog_7_method_4_code 15 = .ok (.iload_n 1, 1) := by decide +kernel
theorem dc_Rul_add_16 : decode prog_7_method_4_code 16 = .ok (.iastore, 1) := by decide +kernel
theorem dc_Rul_add_17 : decode prog_7_method_4_code 17 = .ok (.aload_n 0, 1) := by decide +kernel
theorem dc_Rul_add_18 : decode prog_7_method_4_code 18 = .ok (.getfield 15, 3) := by decide +kernel
theorem dc_Rul_add_21 : decode prog_7_method_4_code 21 = .ok (.aload_n 0, 1) := by decide +kernel
theorem dc_Rul_add_22 : decode prog_7_method_4_code 22 = .ok (.getfield 31, 3) := by decide +kernel
theorem dc_Rul_add_25 : decode prog_7_method_4_code 25 = .ok (.iload_n 2, 1) := by decide +kernel
theorem dc_Rul_add_26 : decode prog_7_method_4_code 26 = .ok (.iastore, 1) := by decide +kernel
theorem dc_Rul_add_27 : decode prog_7_method_4_code 27 = .ok (.aload_n 0, 1) := by decide +kernel
theorem dc_Rul_add_28 : decode prog_7_method_4_code 28 = .ok (.getfield 18, 3) := by decide +kernel
theorem dc_Rul_add_31 : decode prog_7_method_4_code 31 = .ok (.aload_n 0, 1) := by decide +kernel
theorem dc_Rul_add_32 : decode prog_7_method_4_code 32 = .ok (.getfield 31, 3) := by decide +kernel
theorem dc_Rul_add_35 : decode prog_7_method_4_code 35 = .ok (.iload_n 3, 1) := by decide +kernel
theorem dc_Rul_add_36 : decode prog_7_method_4_code 36 = .ok (.iastore, 1) := by decide +kernel
theorem dc_Rul_add_37 : decode prog_7_method_4_code 37 = .ok (.aload_n 0, 1) := by decide +kernel
theorem dc_Rul_add_38 : decode prog_7_method_4_code 38 = .ok (.dup, 1) := by decide +kernel
theorem dc_Rul_add_39 : decode prog_7_method_4_code 39 = .ok (.getfield 31, 3) := by decide +kernel
theorem dc_Rul_add_42 : decode prog_7_method_4_code 42 = .ok (.iconst 1, 1) := by decide +kernel
theorem dc_Rul_add_43 : decode prog_7_method_4_code 43 = .ok (.iadd, 1) := by decide +kernel
theorem dc_Rul_add_44 : decode prog_7_method_4_code 44 = .ok (.putfield 31, 3) := by decide +kernel
theorem dc_Rul_add_47 : decode prog_7_method_4_code 47 = .ok (.aload_n 0, 1) := by decide +kernel
theorem dc_Rul_add_48 : decode prog_7_method_4_code 48 = .ok (.getfield 31, 3) := by decide +kernel
theorem dc_Rul_add_51 : decode prog_7_method_4_code 51 = .ok (.ireturn, 1) := by decide +kernel
theorem dc_Tab_init_0 : decode prog_8_method_1_code 0 = .ok (.aload_n 0, 1) := by decide +kernel
theorem dc_Tab_init_1 : decode prog_8_method_1_code 1 = .ok (.invokespecial 3, 3) := by decide +kernel
theorem dc_Tab_init_4 : decode prog_8_method_1_code 4 = .ok (.aload_n 0, 1) := by decide +kernel
theorem dc_Tab_init_5 : decode prog_8_method_1_code 5 = .ok (.bipush 40, 2) := by decide +kernel
theorem dc_Tab_init_7 : decode prog_8_method_1_code 7 = .ok (.anewarray 9, 3) := by decide +kernel
theorem dc_Tab_init_10 : decode prog_8_method_1_code 10 = .ok (.putfield 11, 3) := by decide +kernel
theorem dc_Tab_init_13 : decode prog_8_method_1_code 13 = .ok (.aload_n 0, 1) := by decide +kernel
theorem dc_Tab_init_14 : decode prog_8_method_1_code 14 = .ok (.bipush 40, 2) := by decide +kernel
theorem dc_Tab_init_16 : decode prog_8_method_1_code 16 = .ok (.newarray .int, 2) := by decide +kernel
theorem dc_Tab_init_18 : decode prog_8_method_1_code 18 = .ok (.putfield 17, 3) := by decide +kernel
theorem dc_Tab_init_21 : decode prog_8_method_1_code 21 = .ok (.return_, 1) := by decide +kernel
theorem dc_Tab_grow_0 : decode prog_8_method_2_code 0 = .ok (.aload_n 0, 1) := by decide +kernel
theorem dc_Tab_grow_1 : decode prog_8_method_2_code 1 = .ok (.aload_n 1, 1) := by decide +kernel
theorem dc_Tab_grow_2 : decode prog_8_method_2_code 2 = .ok (.invokevirtual 21, 3) := by decide +kernel
theorem dc_Tab_grow_5 : decode prog_8_method_2_code 5 = .ok (.istore_n 3, 1) := by decide +kernel
theorem dc_Tab_grow_6 : decode prog_8_method_2_code 6 = .ok (.iload_n 3, 1) := by decide +kernel
theorem dc_Tab_grow_7 : decode prog_8_method_2_code 7 = .ok (.aload_n 0, 1) := by decide +kernel
theorem dc_Tab_grow_8 : decode prog_8_method_2_code 8 = .ok (.getfield 25, 3) := by decide +kernel
theorem dc_Tab_grow_11 : decode prog_8_method_2_code 11 = .ok (.if_icmp .ge 29, 3) := by decide +kernel
theorem dc_Tab_grow_14 : decode prog_8_method_2_code 14 = .ok (.aload_n 0, 1) := by decide +kernel
theorem dc_Tab_grow_15 : decode prog_8_method_2_code 15 = .ok (.getfield 11, 3) := by decide +kernel
theorem dc_Tab_grow_18 : decode prog_8_method_2_code 18 = .ok (.iload_n 3, 1) := by decide +kernel
theorem dc_Tab_grow_19 : decode prog_8_method_2_code 19 = .ok (.aaload, 1) := by decide +kernel
theorem dc_Tab_grow_20 : decode prog_8_method_2_code 20 = .ok (.aload_n 1, 1) := by decide +kernel
theorem dc_Tab_grow_21 : decode prog_8_method_2_code 21 = .ok (.invokevirtual 29, 3) := by decide +kernel
theorem dc_Tab_grow_24 : decode prog_8_method_2_code 24 = .ok (.ifCond .ne 16, 3) := by decide +kernel
theorem dc_Tab_grow_27 : decode prog_8_method_2_code 27 = .ok (.aload_n 0, 1) := by decide +kernel
theorem dc_Tab_grow_28 : decode prog_8_method_2_code 28 = .ok (.getfield 17, 3) := by decide +kernel
theorem dc_Tab_grow_31 : decode prog_8_method_2_code 31 = .ok (.iload_n 3, 1) := by decide +kernel
theorem dc_Tab_grow_32 : decode prog_8_method_2_code 32 = .ok (.dup2, 1) := by decide +kernel
theorem dc_Tab_grow_33 : decode prog_8_method_2_code 33 = .ok (.iaload, 1) := by decide +kernel
theorem dc_Tab_grow_34 : decode prog_8_method_2_code 34 = .ok (.iload_n 2, 1) := by decide +kernel
theorem dc_Tab_grow_35 : decode prog_8_method_2_code 35 = .ok (.iadd, 1) := by decide +kernel
theorem dc_Tab_grow_36 : decode prog_8_method_2_code 36 = .ok (.iastore, 1) := by decide +kernel
theorem dc_Tab_grow_37 : decode prog_8_method_2_code 37 = .ok (.goto 19, 3) := by decide +kernel
theorem dc_Tab_grow_40 : decode prog_8_method_2_code 40 = .ok (.aload_n 0, 1) := by decide +kernel
theorem dc_Tab_grow_41 : decode prog_8_method_2_code 41 = .ok (.getfield 25, 3) := by decide +kernel
theorem dc_Tab_grow_44 : decode prog_8_method_2_code 44 = .ok (.bipush 40, 2) := by decide +kernel
theorem dc_Tab_grow_46 : decode prog_8_method_2_code 46 = .ok (.if_icmp .ge 10, 3) := by decide +kernel
theorem dc_Tab_grow_49 : decode prog_8_method_2_code 49 = .ok (.aload_n 0, 1) := by decide +kernel
theorem dc_Tab_grow_50 : decode prog_8_method_2_code 50 = .ok (.iload_n 3, 1) := by decide +kernel
theorem dc_Tab_grow_51 : decode prog_8_method_2_code 51 = .ok (.aload_n 1, 1) := by decide +kernel
theorem dc_Tab_grow_52 : decode prog_8_method_2_code 52 = .ok (.iload_n 2, 1) := by decide +kernel
theorem dc_Tab_grow_53 : decode prog_8_method_2_code 53 = .ok (.invokevirtual 32, 3) := by decide +kernel
theorem dc_Tab_grow_56 : decode prog_8_method_2_code 56 = .ok (.return_, 1) := by decide +kernel
theorem dc_Tab_placeOf_0 : decode prog_8_method_3_code 0 = .ok (.iconst 0, 1) := by decide +kernel
theorem dc_Tab_placeOf_1 : decode prog_8_method_3_code 1 = .ok (.istore_n 2, 1) := by decide +kernel
theorem dc_Tab_placeOf_2 : decode prog_8_method_3_code 2 = .ok (.iload_n 2, 1) := by decide +kernel
theorem dc_Tab_placeOf_3 : decode prog_8_method_3_code 3 = .ok (.aload_n 0, 1) := by decide +kernel
theorem dc_Tab_placeOf_4 : decode prog_8_method_3_code 4 = .ok (.getfield 25, 3) := by decide +kernel
theorem dc_Tab_placeOf_7 : decode prog_8_method_3_code 7 = .ok (.if_icmp .ge 24, 3) := by decide +kernel
theorem dc_Tab_placeOf_10 : decode prog_8_method_3_code 10 = .ok (.aload_n 0, 1) := by decide +kernel
theorem dc_Tab_placeOf_11 : decode prog_8_method_3_code 11 = .ok (.getfield 11, 3) := by decide +kernel
theorem dc_Tab_placeOf_14 : decode prog_8_method_3_code 14 = .ok (.iload_n 2, 1) := by decide +kernel
theorem dc_Tab_placeOf_15 : decode prog_8_method_3_code 15 = .ok (.aaload, 1) := by decide +kernel
theorem dc_Tab_placeOf_16 : decode prog_8_method_3_code 16 = .ok (.aload_n 1, 1) := by decide +kernel
theorem dc_Tab_placeOf_17 : decode prog_8_method_3_code 17 = .ok (.invokevirtual 29, 3) := by decide +kernel
theorem dc_Tab_placeOf_20 : decode prog_8_method_3_code 20 = .ok (.ifCond .lt 5, 3) := by decide +kernel
theorem dc_Tab_placeOf_23 : decode prog_8_method_3_code 23 = .ok (.iload_n 2, 1) := by decide +kernel
theorem dc_Tab_placeOf_24 : decode prog_8_method_3_code 24 = .ok (.ireturn, 1) := by decide +kernel
theorem dc_Tab_placeOf_25 : decode prog_8_method_3_code 25 = .ok (.iinc 2 1, 3) := by decide +kernel
theorem dc_Tab_placeOf_28 : decode prog_8_method_3_code 28 = .ok (.goto (-26), 3) := by decide +kernel
theorem dc_Tab_placeOf_31 : decode prog_8_method_3_code 31 = .ok (.aload_n 0, 1) := by decide +kernel
theorem dc_Tab_placeOf_32 : decode prog_8_method_3_code 32 = .ok (.getfield 25, 3) := by decide +kernel
theorem dc_Tab_placeOf_35 : decode prog_8_method_3_code 35 = .ok (.ireturn, 1) := by decide +kernel
theorem dc_Tab_insert_0 : decode prog_8_method_4_code 0 = .ok (.aload_n 0, 1) := by decide +kernel
theorem dc_Tab_insert_1 : decode prog_8_method_4_code 1 = .ok (.getfield 25, 3) := by decide +kernel
theorem dc_Tab_insert_4 : decode prog_8_method_4_code 4 = .ok (.istore 4, 2) := by decide +kernel
theorem dc_Tab_insert_6 : decode prog_8_method_4_code 6 = .ok (.iload 4, 2) := by decide +kernel
theorem dc_Tab_insert_8 : decode prog_8_method_4_code 8 = .ok (.iload_n 1, 1) := by decide +kernel
theorem dc_Tab_insert_9 : decode prog_8_method_4_code 9 = .ok (.if_icmp .le 41, 3) := by decide +kernel
theorem dc_Tab_insert_12 : decode prog_8_method_4_code 12 = .ok (.aload_n 0, 1) := by decide +kernel
theorem dc_Tab_insert_13 : decode prog_8_method_4_code 13 = .ok (.getfield 11, 3) := by decide +kernel
theorem dc_Tab_insert_16 : decode prog_8_method_4_code 16 = .ok (.iload 4, 2) := by decide +kernel
theorem dc_Tab_insert_18 : decode prog_8_method_4_code 18 = .ok (.aload_n 0, 1) := by decide +kernel
theorem dc_Tab_insert_19 : decode prog_8_method_4_code 19 = .ok (.getfield 11, 3) := by decide +kernel
theorem dc_Tab_insert_22 : decode prog_8_method_4_code 22 = .ok (.iload 4, 2) := by decide +kernel
theorem dc_Tab_insert_24 : decode prog_8_method_4_code 24 = .ok (.iconst 1, 1) := by decide +kernel
theorem dc_Tab_insert_25 : decode prog_8_method_4_code 25 = .ok (.isub, 1) := by decide +kernel
theorem dc_Tab_insert_26 : decode prog_8_method_4_code 26 = .ok (.aaload, 1) := by decide +kernel
theorem dc_Tab_insert_27 : decode prog_8_method_4_code 27 = .ok (.aastore, 1) := by decide +kernel
theorem dc_Tab_insert_28 : decode prog_8_method_4_code 28 = .ok (.aload_n 0, 1) := by decide +kernel
theorem dc_Tab_insert_29 : decode prog_8_method_4_code 29 = .ok (.getfield 17, 3) := by decide +kernel
theorem dc_Tab_insert_32 : decode prog_8_method_4_code 32 = .ok (.iload 4, 2) := by decide +kernel
theorem dc_Tab_insert_34 : decode prog_8_method_4_code 34 = .ok (.aload_n 0, 1) := by decide +kernel
theorem dc_Tab_insert_35 : decode prog_8_method_4_code 35 = .ok (.getfield 17, 3) := by decide +kernel
theorem dc_Tab_insert_38 : decode prog_8_method_4_code 38 = .ok (.iload 4, 2) := by decide +kernel
theorem dc_Tab_insert_40 : decode prog_8_method_4_code 40 = .ok (.iconst 1, 1) := by decide +kernel
theorem dc_Tab_insert_41 : decode prog_8_method_4_code 41 = .ok (.isub, 1) := by decide +kernel
theorem dc_Tab_insert_42 : decode prog_8_method_4_code 42 = .ok (.iaload, 1) := by decide +kernel
theorem dc_Tab_insert_43 : decode prog_8_method_4_code 43 = .ok (.iastore, 1) := by decide +kernel
theorem dc_Tab_insert_44 : decode prog_8_method_4_code 44 = .ok (.iinc 4 (-1), 3) := by decide +kernel
theorem dc_Tab_insert_47 : decode prog_8_method_4_code 47 = .ok (.goto (-41), 3) := by decide +kernel
theorem dc_Tab_insert_50 : decode prog_8_method_4_code 50 = .ok (.aload_n 0, 1) := by decide +kernel
theorem dc_Tab_insert_51 : decode prog_8_method_4_code 51 = .ok (.getfield 11, 3) := by decide +kernel
theorem dc_Tab_insert_54 : decode prog_8_method_4_code 54 = .ok (.iload_n 1, 1) := by decide +kernel
theorem dc_Tab_insert_55 : decode prog_8_method_4_code 55 = .ok (.new 9, 3) := by decide +kernel
theorem dc_Tab_insert_58 : decode prog_8_method_4_code 58 = .ok (.dup, 1) := by decide +kernel
theorem dc_Tab_insert_59 : decode prog_8_method_4_code 59 = .ok (.aload_n 2, 1) := by decide +kernel
theorem dc_Tab_insert_60 : decode prog_8_method_4_code 60 = .ok (.getfield 36, 3) := by decide +kernel
theorem dc_Tab_insert_63 : decode prog_8_method_4_code 63 = .ok (.invokespecial 39, 3) := by decide +kernel
theorem dc_Tab_insert_66 : decode prog_8_method_4_code 66 = .ok (.aastore, 1) := by decide +kernel
theorem dc_Tab_insert_67 : decode prog_8_method_4_code 67 = .ok (.aload_n 0, 1) := by decide +kernel
theorem dc_Tab_insert_68 : decode prog_8_method_4_code 68 = .ok (.getfield 11, 3) := by decide +kernel
theorem dc_Tab_insert_71 : decode prog_8_method_4_code 71 = .ok (.iload_n 1, 1) := by decide +kernel
theorem dc_Tab_insert_72 : decode prog_8_method_4_code 72 = .ok (.aaload, 1) := by decide +kernel
theorem dc_Tab_insert_73 : decode prog_8_method_4_code 73 = .ok (.aload_n 2, 1) := by decide +kernel
theorem dc_Tab_insert_74 : decode prog_8_method_4_code 74 = .ok (.invokevirtual 42, 3) := by decide +kernel
theorem dc_Tab_insert_77 : decode prog_8_method_4_code 77 = .ok (.aload_n 0, 1) := by decide +kernel
theorem dc_Tab_insert_78 : decode prog_8_method_4_code 78 = .ok (.getfield 17, 3) := by decide +kernel
theorem dc_Tab_insert_81 : decode prog_8_method_4_code 81 = .ok (.iload_n 1, 1) := by decide +kernel
theorem dc_Tab_insert_82 : decode prog_8_method_4_code 82 = .ok (.iload_n 3, 1) := by decide +kernel
theorem dc_Tab_insert_83 : decode prog_8_method_4_code 83 = .ok (.iastore, 1) := by decide +kernel
theorem dc_Tab_insert_84 : decode prog_8_method_4_code 84 = .ok (.aload_n 0, 1) := by decide +kernel
theorem dc_Tab_insert_85 : decode prog_8_method_4_code 85 = .ok (.dup, 1) := by decide +kernel
theorem dc_Tab_insert_86 : decode prog_8_method_4_code 86 = .ok (.getfield 25, 3) := by decide +kernel
theorem dc_Tab_insert_89 : decode prog_8_method_4_code 89 = .ok (.iconst 1, 1) := by decide +kernel
theorem dc_Tab_insert_90 : decode prog_8_method_4_code 90 = .ok (.iadd, 1) := by decide +kernel
theorem dc_Tab_insert_91 : decode prog_8_method_4_code 91 = .ok (.putfield 25, 3) := by decide +kernel
theorem dc_Tab_insert_94 : decode prog_8_method_4_code 94 = .ok (.return_, 1) := by decide +kernel
theorem dc_Mth_floorMod_0 : decode prog_14_method_50_code 0 = .ok (.iload_n 0, 1) := by decide +kernel
theorem dc_Mth_floorMod_1 : decode prog_14_method_50_code 1 = .ok (.iload_n 1, 1) := by decide +kernel
theorem dc_Mth_floorMod_2 : decode prog_14_method_50_code 2 = .ok (.irem, 1) := by decide +kernel
theorem dc_Mth_floorMod_3 : decode prog_14_method_50_code 3 = .ok (.istore_n 2, 1) := by decide +kernel
theorem dc_Mth_floorMod_4 : decode prog_14_method_50_code 4 = .ok (.iload_n 0, 1) := by decide +kernel
theorem dc_Mth_floorMod_5 : decode prog_14_method_50_code 5 = .ok (.iload_n 1, 1) := by decide +kernel
theorem dc_Mth_floorMod_6 : decode prog_14_method_50_code 6 = .ok (.ixor, 1) := by decide +kernel
theorem dc_Mth_floorMod_7 : decode prog_14_method_50_code 7 = .ok (.ifCond .ge 11, 3) := by decide +kernel
theorem dc_Mth_floorMod_10 : decode prog_14_method_50_code 10 = .ok (.iload_n 2, 1) := by decide +kernel
theorem dc_Mth_floorMod_11 : decode prog_14_method_50_code 11 = .ok (.ifCond .eq 7, 3) := by decide +kernel
theorem dc_Mth_floorMod_14 : decode prog_14_method_50_code 14 = .ok (.iload_n 2, 1) := by decide +kernel
theorem dc_Mth_floorMod_15 : decode prog_14_method_50_code 15 = .ok (.iload_n 1, 1) := by decide +kernel
theorem dc_Mth_floorMod_16 : decode prog_14_method_50_code 16 = .ok (.iadd, 1) := by decide +kernel
theorem dc_Mth_floorMod_17 : decode prog_14_method_50_code 17 = .ok (.ireturn, 1) := by decide +kernel
theorem dc_Mth_floorMod_18 : decode prog_14_method_50_code 18 = .ok (.iload_n 2, 1) := by decide +kernel
theorem dc_Mth_floorMod_19 : decode prog_14_method_50_code 19 = .ok (.ireturn, 1) := by decide +kernel
theorem dc_Mth_min_0 : decode prog_14_method_69_code 0 = .ok (.iload_n 0, 1) := by decide +kernel
theorem dc_Mth_min_1 : decode prog_14_method_69_code 1 = .ok (.iload_n 1, 1) := by decide +kernel
theorem dc_Mth_min_2 : decode prog_14_method_69_code 2 = .ok (.if_icmp .gt 7, 3) := by decide +kernel
theorem dc_Mth_min_5 : decode prog_14_method_69_code 5 = .ok (.iload_n 0, 1) := by decide +kernel
theorem dc_Mth_min_6 : decode prog_14_method_69_code 6 = .ok (.goto 4, 3) := by decide +kernel
theorem dc_Mth_min_9 : decode prog_14_method_69_code 9 = .ok (.iload_n 1, 1) := by decide +kernel
theorem dc_Mth_min_10 : decode prog_14_method_69_code 10 = .ok (.ireturn, 1) := by decide +kernel
theorem dc_Arr_fill_0 : decode prog_19_method_101_code 0 = .ok (.iconst 0, 1) := by decide +kernel
theorem dc_Arr_fill_1 : decode prog_19_method_101_code 1 = .ok (.istore_n 3, 1) := by decide +kernel
theorem dc_Arr_fill_2 : decode prog_19_method_101_code 2 = .ok (.aload_n 0, 1) := by decide +kernel
theorem dc_Arr_fill_3 : decode prog_19_method_101_code 3 = .ok (.arraylength, 1) := by decide +kernel
theorem dc_Arr_fill_4 : decode prog_19_method_101_code 4 = .ok (.istore 4, 2) := by decide +kernel
theorem dc_Arr_fill_6 : decode prog_19_method_101_code 6 = .ok (.iload_n 3, 1) := by decide +kernel
theorem dc_Arr_fill_7 : decode prog_19_method_101_code 7 = .ok (.iload 4, 2) := by decide +kernel
theorem dc_Arr_fill_9 : decode prog_19_method_101_code 9 = .ok (.if_icmp .ge 13, 3) := by decide +kernel
theorem dc_Arr_fill_12 : decode prog_19_method_101_code 12 = .ok (.aload_n 0, 1) := by decide +kernel
theorem dc_Arr_fill_13 : decode prog_19_method_101_code 13 = .ok (.iload_n 3, 1) := by decide +kernel
theorem dc_Arr_fill_14 : decode prog_19_method_101_code 14 = .ok (.lload_n 1, 1) := by decide +kernel
theorem dc_Arr_fill_15 : decode prog_19_method_101_code 15 = .ok (.lastore, 1) := by decide +kernel
theorem dc_Arr_fill_16 : decode prog_19_method_101_code 16 = .ok (.iinc 3 1, 3) := by decide +kernel
theorem dc_Arr_fill_19 : decode prog_19_method_101_code 19 = .ok (.goto (-13), 3) := by decide +kernel
theorem dc_Arr_fill_22 : decode prog_19_method_101_code 22 = .ok (.return_, 1) := by decide +kernel
