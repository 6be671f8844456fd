theorem dc_Law_feed_0 : decode method_3_code 0 = .ok (.aload 6, 2) := by decide +kernel
theorem dc_Law_feed_2 : decode method_3_code 2 = .ok (.iconst 0, 1) := by decide +kernel
theorem dc_Law_feed_3 : decode method_3_code 3 = .ok (.aload_n 0, 1) := by decide +kernel
theorem dc_Law_feed_4 : decode method_3_code 4 = .ok (.iload_n 1, 1) := by decide +kernel
theorem dc_Law_feed_5 : decode method_3_code 5 = .ok (.iload_n 2, 1) := by decide +kernel
theorem dc_Law_feed_6 : decode method_3_code 6 = .ok (.iload_n 3, 1) := by decide +kernel
theorem dc_Law_feed_7 : decode method_3_code 7 = .ok (.iload 4, 2) := by decide +kernel
theorem dc_Law_feed_9 : decode method_3_code 9 = .ok (.iload 5, 2) := by decide +kernel
theorem dc_Law_feed_11 : decode method_3_code 11 = .ok (.invokevirtual 7, 3) := by decide +kernel
theorem dc_Law_feed_14 : decode method_3_code 14 = .ok (.i2l, 1) := by decide +kernel
theorem dc_Law_feed_15 : decode method_3_code 15 = .ok (.lastore, 1) := by decide +kernel
theorem dc_Law_feed_16 : decode method_3_code 16 = .ok (.goto 7, 3) := by decide +kernel
theorem dc_Law_feed_19 : decode method_3_code 19 = .ok (.astore 7, 2) := by decide +kernel
theorem dc_Law_feed_21 : decode method_3_code 21 = .ok (.iconst 1, 1) := by decide +kernel
theorem dc_Law_feed_22 : decode method_3_code 22 = .ok (.ireturn, 1) := by decide +kernel
theorem dc_Law_feed_23 : decode method_3_code 23 = .ok (.iconst 0, 1) := by decide +kernel
theorem dc_Law_feed_24 : decode method_3_code 24 = .ok (.ireturn, 1) := by decide +kernel
theorem dc_Law_expression_0 : decode method_4_code 0 = .ok (.aload_n 2, 1) := by decide +kernel
theorem dc_Law_expression_1 : decode method_4_code 1 = .ok (.iconst 0, 1) := by decide +kernel
theorem dc_Law_expression_2 : decode method_4_code 2 = .ok (.aload_n 0, 1) := by decide +kernel
theorem dc_Law_expression_3 : decode method_4_code 3 = .ok (.iload_n 1, 1) := by decide +kernel
theorem dc_Law_expression_4 : decode method_4_code 4 = .ok (.invokevirtual 15, 3) := by decide +kernel
theorem dc_Law_expression_7 : decode method_4_code 7 = .ok (.i2l, 1) := by decide +kernel
theorem dc_Law_expression_8 : decode method_4_code 8 = .ok (.lastore, 1) := by decide +kernel
theorem dc_Law_expression_9 : decode method_4_code 9 = .ok (.goto 9, 3) := by decide +kernel
theorem dc_Law_expression_12 : decode method_4_code 12 = .ok (.astore_n 3, 1) := by decide +kernel
theorem dc_Law_expression_13 : decode method_4_code 13 = .ok (.iconst 1, 1) := by decide +kernel
theorem dc_Law_expression_14 : decode method_4_code 14 = .ok (.ireturn, 1) := by decide +kernel
theorem dc_Law_expression_15 : decode method_4_code 15 = .ok (.astore_n 3, 1) := by decide +kernel
theorem dc_Law_expression_16 : decode method_4_code 16 = .ok (.iconst 2, 1) := by decide +kernel
theorem dc_Law_expression_17 : decode method_4_code 17 = .ok (.ireturn, 1) := by decide +kernel
theorem dc_Law_expression_18 : decode method_4_code 18 = .ok (.iconst 0, 1) := by decide +kernel
theorem dc_Law_expression_19 : decode method_4_code 19 = .ok (.ireturn, 1) := by decide +kernel
theorem dc_Law_text_0 : decode method_5_code 0 = .ok (.aload_n 2, 1) := by decide +kernel
theorem dc_Law_text_1 : decode method_5_code 1 = .ok (.iconst 0, 1) := by decide +kernel
theorem dc_Law_text_2 : decode method_5_code 2 = .ok (.aload_n 0, 1) := by decide +kernel
theorem dc_Law_text_3 : decode method_5_code 3 = .ok (.iload_n 1, 1) := by decide +kernel
theorem dc_Law_text_4 : decode method_5_code 4 = .ok (.invokevirtual 21, 3) := by decide +kernel
theorem dc_Law_text_7 : decode method_5_code 7 = .ok (.i2l, 1) := by decide +kernel
theorem dc_Law_text_8 : decode method_5_code 8 = .ok (.lastore, 1) := by decide +kernel
theorem dc_Law_text_9 : decode method_5_code 9 = .ok (.goto 6, 3) := by decide +kernel
theorem dc_Law_text_12 : decode method_5_code 12 = .ok (.astore_n 3, 1) := by decide +kernel
theorem dc_Law_text_13 : decode method_5_code 13 = .ok (.iconst 1, 1) := by decide +kernel
theorem dc_Law_text_14 : decode method_5_code 14 = .ok (.ireturn, 1) := by decide +kernel
theorem dc_Law_text_15 : decode method_5_code 15 = .ok (.iconst 0, 1) := by decide +kernel
theorem dc_Law_text_16 : decode method_5_code 16 = .ok (.ireturn, 1) := by decide +kernel
theorem dc_Law_separator_0 : decode method_6_code 0 = .ok (.aload_n 2, 1) := by decide +kernel
theorem dc_Law_separator_1 : decode method_6_code 1 = .ok (.iconst 0, 1) := by decide +kernel
theorem dc_Law_separator_2 : decode method_6_code 2 = .ok (.aload_n 0, 1) := by decide +kernel
theorem dc_Law_separator_3 : decode method_6_code 3 = .ok (.iload_n 1, 1) := by decide +kernel
theorem dc_Law_separator_4 : decode method_6_code 4 = .ok (.invokevirtual 24, 3) := by decide +kernel
theorem dc_Law_separator_7 : decode method_6_code 7 = .ok (.i2l, 1) := by decide +kernel
theorem dc_Law_separator_8 : decode method_6_code 8 = .ok (.lastore, 1) := by decide +kernel
theorem dc_Law_separator_9 : decode method_6_code 9 = .ok (.goto 6, 3) := by decide +kernel
theorem dc_Law_separator_12 : decode method_6_code 12 = .ok (.astore_n 3, 1) := by decide +kernel
theorem dc_Law_separator_13 : decode method_6_code 13 = .ok (.iconst 1, 1) := by decide +kernel
theorem dc_Law_separator_14 : decode method_6_code 14 = .ok (.ireturn, 1) := by decide +kernel
theorem dc_Law_separator_15 : decode method_6_code 15 = .ok (.iconst 0, 1) := by decide +kernel
theorem dc_Law_separator_16 : decode method_6_code 16 = .ok (.ireturn, 1) := by decide +kernel
theorem dc_Law_rule_0 : decode method_7_code 0 = .ok (.aload 4, 2) := by decide +kernel
theorem dc_Law_rule_2 : decode method_7_code 2 = .ok (.iconst 0, 1) := by decide +kernel
theorem dc_Law_rule_3 : decode method_7_code 3 = .ok (.aload_n 0, 1) := by decide +kernel
theorem dc_Law_rule_4 : decode method_7_code 4 = .ok (.iload_n 1, 1) := by decide +kernel
theorem dc_Law_rule_5 : decode method_7_code 5 = .ok (.iload_n 2, 1) := by decide +kernel
theorem dc_Law_rule_6 : decode method_7_code 6 = .ok (.iload_n 3, 1) := by decide +kernel
theorem dc_Law_rule_7 : decode method_7_code 7 = .ok (.invokevirtual 29, 3) := by decide +kernel
theorem dc_Law_rule_10 : decode method_7_code 10 = .ok (.i2l, 1) := by decide +kernel
theorem dc_Law_rule_11 : decode method_7_code 11 = .ok (.lastore, 1) := by decide +kernel
theorem dc_Law_rule_12 : decode method_7_code 12 = .ok (.goto 11, 3) := by decide +kernel
theorem dc_Law_rule_15 : decode method_7_code 15 = .ok (.astore 5, 2) := by decide +kernel
theorem dc_Law_rule_17 : decode method_7_code 17 = .ok (.iconst 1, 1) := by decide +kernel
theorem dc_Law_rule_18 : decode method_7_code 18 = .ok (.ireturn, 1) := by decide +kernel
theorem dc_Law_rule_19 : decode method_7_code 19 = .ok (.astore 5, 2) := by decide +kernel
theorem dc_Law_rule_21 : decode method_7_code 21 = .ok (.iconst 2, 1) := by decide +kernel
theorem dc_Law_rule_22 : decode method_7_code 22 = .ok (.ireturn, 1) := by decide +kernel
theorem dc_Law_rule_23 : decode method_7_code 23 = .ok (.iconst 0, 1) := by decide +kernel
theorem dc_Law_rule_24 : decode method_7_code 24 = .ok (.ireturn, 1) := by decide +kernel
theorem dc_Law_action_0 : decode method_8_code 0 = .ok (.aload 5, 2) := by decide +kernel
theorem dc_Law_action_2 : decode method_8_code 2 = .ok (.iconst 0, 1) := by decide +kernel
theorem dc_Law_action_3 : decode method_8_code 3 = .ok (.aload_n 0, 1) := by decide +kernel
theorem dc_Law_action_4 : decode method_8_code 4 = .ok (.iload_n 1, 1) := by decide +kernel
theorem dc_Law_action_5 : decode method_8_code 5 = .ok (.iload_n 2, 1) := by decide +kernel
theorem dc_Law_action_6 : decode method_8_code 6 = .ok (.iload_n 3, 1) := by decide +kernel
theorem dc_Law_action_7 : decode method_8_code 7 = .ok (.iload 4, 2) := by decide +kernel
theorem dc_Law_action_9 : decode method_8_code 9 = .ok (.invokevirtual 33, 3) := by decide +kernel
theorem dc_Law_action_12 : decode method_8_code 12 = .ok (.i2l, 1) := by decide +kernel
theorem dc_Law_action_13 : decode method_8_code 13 = .ok (.lastore, 1) := by decide +kernel
theorem dc_Law_action_14 : decode method_8_code 14 = .ok (.goto 11, 3) := by decide +kernel
theorem dc_Law_action_17 : decode method_8_code 17 = .ok (.astore 6, 2) := by decide +kernel
theorem dc_Law_action_19 : decode method_8_code 19 = .ok (.iconst 1, 1) := by decide +kernel
theorem dc_Law_action_20 : decode method_8_code 20 = .ok (.ireturn, 1) := by decide +kernel
theorem dc_Law_action_21 : decode method_8_code 21 = .ok (.astore 6, 2) := by decide +kernel
theorem dc_Law_action_23 : decode method_8_code 23 = .ok (.iconst 2, 1) := by decide +kernel
theorem dc_Law_action_24 : decode method_8_code 24 = .ok (.ireturn, 1) := by decide +kernel
theorem dc_Law_action_25 : decode method_8_code 25 = .ok (.iconst 0, 1) := by decide +kernel
theorem dc_Law_action_26 : decode method_8_code 26 = .ok (.ireturn, 1) := by decide +kernel
theorem dc_Law_find_0 : decode method_9_code 0 = .ok (.aload_n 3, 1) := by decide +kernel
theorem dc_Law_find_1 : decode method_9_code 1 = .ok (.iconst 0, 1) := by decide +kernel
theorem dc_Law_find_2 : decode method_9_code 2 = .ok (.aload_n 0, 1) := by decide +kernel
theorem dc_Law_find_3 : decode method_9_code 3 = .ok (.iload_n 1, 1) := by decide +kernel
theorem dc_Law_find_4 : decode method_9_code 4 = .ok (.iload_n 2, 1) := by decide +kernel
theorem dc_Law_find_5 : decode method_9_code 5 = .ok (.invokevirtual 37, 3) := by decide +kernel
theorem dc_Law_find_8 : decode method_9_code 8 = .ok (.i2l, 1) := by decide +kernel
theorem dc_Law_find_9 : decode method_9_code 9 = .ok (.lastore, 1) := by decide +kernel
theorem dc_Law_find_10 : decode method_9_code 10 = .ok (.goto 7, 3) := by decide +kernel
theorem dc_Law_find_13 : decode method_9_code 13 = .ok (.astore 4, 2) := by decide +kernel
theorem dc_Law_find_15 : decode method_9_code 15 = .ok (.iconst 1, 1) := by decide +kernel
theorem dc_Law_find_16 : decode method_9_code 16 = .ok (.ireturn, 1) := by decide +kernel
theorem dc_Law_find_17 : decode method_9_code 17 = .ok (.iconst 0, 1) := by decide +kernel
theorem dc_Law_find_18 : decode method_9_code 18 = .ok (.ireturn, 1) := by decide +kernel
theorem dc_Law_sign_0 : decode method_10_code 0 = .ok (.aload_n 3, 1) := by decide +kernel
theorem dc_Law_sign_1 : decode method_10_code 1 = .ok (.iconst 0, 1) := by decide +kernel
theorem dc_Law_sign_2 : decode method_10_code 2 = .ok (.aload_n 0, 1) := by decide +kernel
theorem dc_Law_sign_3 : decode method_10_code 3 = .ok (.iload_n 1, 1) := by decide +kernel
theorem dc_Law_sign_4 : decode method_10_code 4 = .ok (.iload_n 2, 1) := by decide +kernel
theorem dc_Law_sign_5 : decode method_10_code 5 = .ok (.invokevirtual 41, 3) := by decide +kernel
theorem dc_Law_sign_8 : decode method_10_code 8 = .ok (.i2l, 1) := by decide +kernel
theorem dc_Law_sign_9 : decode method_10_code 9 = .ok (.lastore, 1) := by decide +kernel
theorem dc_Law_sign_10 : decode method_10_code 10 = .ok (.goto 7, 3) := by decide +kernel
theorem dc_Law_sign_13 : decode method_10_code 13 = .ok (.astore 4, 2) := by decide +kernel
theorem dc_Law_sign_15 : decode method_10_code 15 = .ok (.iconst 1, 1) := by decide +kernel
theorem dc_Law_sign_16 : decode method_10_code 16 = .ok (.ireturn, 1) := by decide +kernel
theorem dc_Law_sign_17 : decode method_10_code 17 = .ok (.iconst 0, 1) := by decide +kernel
theorem dc_Law_sign_18 : decode method_10_code 18 = .ok (.ireturn, 1) := by decide +kernel
theorem dc_Law_printed_0 : decode method_11_code 0 = .ok (.aload_n 2, 1) := by decide +kernel
theorem dc_Law_printed_1 : decode method_11_code 1 = .ok (.iconst 0, 1) := by decide +kernel
theorem dc_Law_printed_2 : decode method_11_code 2 = .ok (.aload_n 0, 1) := by decide +kernel
theorem dc_Law_printed_3 : decode method_11_code 3 = .ok (.iload_n 1, 1) := by decide +kernel
theorem dc_Law_printed_4 : decode method_11_code 4 = .ok (.invokevirtual 44, 3) := by decide +kernel
theorem dc_Law_printed_7 : decode method_11_code 7 = .ok (.i2l, 1) := by decide +kernel
theorem dc_Law_printed_8 : decode method_11_code 8 = .ok (.lastore, 1) := by decide +kernel
theorem dc_Law_printed_9 : decode method_11_code 9 = .ok (.goto 6, 3) := by decide +kernel
theorem dc_Law_printed_12 : decode method_11_code 12 = .ok (.astore_n 3, 1) := by decide +kernel
theorem dc_Law_printed_13 : decode method_11_code 13 = .ok (.iconst 1, 1) := by decide +kernel
theorem dc_Law_printed_14 : decode method_11_code 14 = .ok (.ireturn, 1) := by decide +kernel
theorem dc_Law_printed_15 : decode method_11_code 15 = .ok (.iconst 0, 1) := by decide +kernel
theorem dc_Law_printed_16 : decode method_11_code 16 = .ok (.ireturn, 1) := by decide +kernel
theorem dc_Law_counter_0 : decode method_12_code 0 = .ok (.aload_n 2, 1) := by decide +kernel
theorem dc_Law_counter_1 : decode method_12_code 1 = .ok (.iconst 0, 1) := by decide +kernel
theorem dc_Law_counter_2 : decode method_12_code 2 = .ok (.aload_n 0, 1) := by decide +kernel
theorem dc_Law_counter_3 : decode method_12_code 3 = .ok (.iload_n 1, 1) := by decide +kernel
theorem dc_Law_counter_4 : decode method_12_code 4 = .ok (.invokevirtual 47, 3) := by decide +kernel
theorem dc_Law_counter_7 : decode method_12_code 7 = .ok (.i2l, 1) := by decide +kernel
theorem dc_Law_counter_8 : decode method_12_code 8 = .ok (.lastore, 1) := by decide +kernel
theorem dc_Law_counter_9 : decode method_12_code 9 = .ok (.goto 6, 3) := by decide +kernel
theorem dc_Law_counter_12 : decode method_12_code 12 = .ok (.astore_n 3, 1) := by decide +kernel
theorem dc_Law_counter_13 : decode method_12_code 13 = .ok (.iconst 1, 1) := by decide +kernel
theorem dc_Law_counter_14 : decode method_12_code 14 = .ok (.ireturn, 1) := by decide +kernel
theorem dc_Law_counter_15 : decode method_12_code 15 = .ok (.iconst 0, 1) := by decide +kernel
theorem dc_Law_counter_16 : decode method_12_code 16 = .ok (.ireturn, 1) := by decide +kernel
theorem dc_Law_key_0 : decode method_13_code 0 = .ok (.aload_n 3, 1) := by decide +kernel
theorem dc_Law_key_1 : decode method_13_code 1 = .ok (.iconst 0, 1) := by decide +kernel
theorem dc_Law_key_2 : decode method_13_code 2 = .ok (.aload_n 0, 1) := by decide +kernel
theorem dc_Law_key_3 : decode method_13_code 3 = .ok (.iload_n 1, 1) := by decide +kernel
theorem dc_Law_key_4 : decode method_13_code 4 = .ok (.iload_n 2, 1) := by decide +kernel
theorem dc_Law_key_5 : decode method_13_code 5 = .ok (.invokevirtual 50, 3) := by decide +kernel
theorem dc_Law_key_8 : decode method_13_code 8 = .ok (.i2l, 1) := by decide +kernel
theorem dc_Law_key_9 : decode method_13_code 9 = .ok (.lastore, 1) := by decide +kernel
theorem dc_Law_key_10 : decode method_13_code 10 = .ok (.goto 7, 3) := by decide +kernel
theorem dc_Law_key_13 : decode method_13_code 13 = .ok (.astore 4, 2) := by decide +kernel
theorem dc_Law_key_15 : decode method_13_code 15 = .ok (.iconst 1, 1) := by decide +kernel
theorem dc_Law_key_16 : decode method_13_code 16 = .ok (.ireturn, 1) := by decide +kernel
theorem dc_Law_key_17 : decode method_13_code 17 = .ok (.iconst 0, 1) := by decide +kernel
theorem dc_Law_key_18 : decode method_13_code 18 = .ok (.ireturn, 1) := by decide +kernel
theorem dc_Law_count_0 : decode method_14_code 0 = .ok (.aload_n 2, 1) := by decide +kernel
theorem dc_Law_count_1 : decode method_14_code 1 = .ok (.iconst 0, 1) := by decide +kernel
theorem dc_Law_count_2 : decode method_14_code 2 = .ok (.aload_n 0, 1) := by decide +kernel
theorem dc_Law_count_3 : decode method_14_code 3 = .ok (.iload_n 1, 1) := by decide +kernel
theorem dc_Law_count_4 : decode method_14_code 4 = .ok (.invokevirtual 53, 3) := by decide +kernel
theorem dc_Law_count_7 : decode method_14_code 7 = .ok (.i2l, 1) := by decide +kernel
theorem dc_Law_count_8 : decode method_14_code 8 = .ok (.lastore, 1) := by decide +kernel
theorem dc_Law_count_9 : decode method_14_code 9 = .ok (.goto 6, 3) := by decide +kernel
theorem dc_Law_count_12 : decode method_14_code 12 = .ok (.astore_n 3, 1) := by decide +kernel
theorem dc_Law_count_13 : decode method_14_code 13 = .ok (.iconst 1, 1) := by decide +kernel
theorem dc_Law_count_14 : decode method_14_code 14 = .ok (.ireturn, 1) := by decide +kernel
theorem dc_Law_count_15 : decode method_14_code 15 = .ok (.iconst 0, 1) := by decide +kernel
theorem dc_Law_count_16 : decode method_14_code 16 = .ok (.ireturn, 1) := by decide +kernel
theorem dc_Law_law_0 : decode code 0 = .ok (.new 8, 3) := by decide +kernel
theorem dc_Law_law_3 : decode code 3 = .ok (.dup, 1) := by decide +kernel
theorem dc_Law_law_4 : decode code 4 = .ok (.invokespecial 56, 3) := by decide +kernel
theorem dc_Law_law_7 : decode code 7 = .ok (.astore_n 1, 1) := by decide +kernel
theorem dc_Law_law_8 : decode code 8 = .ok (.new 57, 3) := by decide +kernel
theorem dc_Law_law_11 : decode code 11 = .ok (.dup, 1) := by decide +kernel
theorem dc_Law_law_12 : decode code 12 = .ok (.invokespecial 59, 3) := by decide +kernel
theorem dc_Law_law_15 : decode code 15 = .ok (.astore_n 2, 1) := by decide +kernel
theorem dc_Law_law_16 : decode code 16 = .ok (.iconst 1, 1) := by decide +kernel
theorem dc_Law_law_17 : decode code 17 = .ok (.newarray .long, 2) := by decide +kernel
theorem dc_Law_law_19 : decode code 19 = .ok (.astore_n 3, 1) := by decide +kernel
theorem dc_Law_law_20 : decode code 20 = .ok (.iconst 0, 1) := by decide +kernel
theorem dc_Law_law_21 : decode code 21 = .ok (.istore 4, 2) := by decide +kernel
theorem dc_Law_law_23 : decode code 23 = .ok (.iload 4, 2) := by decide +kernel
theorem dc_Law_law_25 : decode code 25 = .ok (.aload_n 0, 1) := by decide +kernel
theorem dc_Law_law_26 : decode code 26 = .ok (.arraylength, 1) := by decide +kernel
theorem dc_Law_law_27 : decode code 27 = .ok (.bipush 6, 2) := by decide +kernel
theorem dc_Law_law_29 : decode code 29 = .ok (.isub, 1) := by decide +kernel
theorem dc_Law_law_30 : decode code 30 = .ok (.if_icmp .gt 964, 3) := by decide +kernel
theorem dc_Law_law_33 : decode code 33 = .ok (.aload_n 0, 1) := by decide +kernel
theorem dc_Law_law_34 : decode code 34 = .ok (.iload 4, 2) := by decide +kernel
theorem dc_Law_law_36 : decode code 36 = .ok (.iaload, 1) := by decide +kernel
theorem dc_Law_law_37 : decode code 37 = .ok (.bipush 15, 2) := by decide +kernel
theorem dc_Law_law_39 : decode code 39 = .ok (.iand, 1) := by decide +kernel
theorem dc_Law_law_40 : decode code 40 = .ok (.tableswitch 948 0 15 #[80, 184, 197, 253, 309, 365, 445, 537, 550, 563, 631, 644, 712, 768, 824, 892], 80) := by decide +kernel
theorem dc_Law_law_120 : decode code 120 = .ok (.aload_n 1, 1) := by decide +kernel
theorem dc_Law_law_121 : decode code 121 = .ok (.aload_n 0, 1) := by decide +kernel
theorem dc_Law_law_122 : decode code 122 = .ok (.iload 4, 2) := by decide +kernel
theorem dc_Law_law_124 : decode code 124 = .ok (.iconst 1, 1) := by decide +kernel
theorem dc_Law_law_125 : decode code 125 = .ok (.iadd, 1) := by decide +kernel
theorem dc_Law_law_126 : decode code 126 = .ok (.iaload, 1) := by decide +kernel
theorem dc_Law_law_127 : decode code 127 = .ok (.aload_n 0, 1) := by decide +kernel
theorem dc_Law_law_128 : decode code 128 = .ok (.iload 4, 2) := by decide +kernel
theorem dc_Law_law_130 : decode code 130 = .ok (.iconst 2, 1) := by decide +kernel
theorem dc_Law_law_131 : decode code 131 = .ok (.iadd, 1) := by decide +kernel
theorem dc_Law_law_132 : decode code 132 = .ok (.iaload, 1) := by decide +kernel
theorem dc_Law_law_133 : decode code 133 = .ok (.aload_n 0, 1) := by decide +kernel
theorem dc_Law_law_134 : decode code 134 = .ok (.iload 4, 2) := by decide +kernel
theorem dc_Law_law_136 : decode code 136 = .ok (.iconst 3, 1) := by decide +kernel
theorem dc_Law_law_137 : decode code 137 = .ok (.iadd, 1) := by decide +kernel
theorem dc_Law_law_138 : decode code 138 = .ok (.iaload, 1) := by decide +kernel
theorem dc_Law_law_139 : decode code 139 = .ok (.aload_n 0, 1) := by decide +kernel
theorem dc_Law_law_140 : decode code 140 = .ok (.iload 4, 2) := by decide +kernel
theorem dc_Law_law_142 : decode code 142 = .ok (.iconst 4, 1) := by decide +kernel
theorem dc_Law_law_143 : decode code 143 = .ok (.iadd, 1) := by decide +kernel
theorem dc_Law_law_144 : decode code 144 = .ok (.iaload, 1) := by decide +kernel
theorem dc_Law_law_145 : decode code 145 = .ok (.aload_n 0, 1) := by decide +kernel
theorem dc_Law_law_146 : decode code 146 = .ok (.iload 4, 2) := by decide +kernel
theorem dc_Law_law_148 : decode code 148 = .ok (.iconst 5, 1) := by decide +kernel
theorem dc_Law_law_149 : decode code 149 = .ok (.iadd, 1) := by decide +kernel
theorem dc_Law_law_150 : decode code 150 = .ok (.iaload, 1) := by decide +kernel
theorem dc_Law_law_151 : decode code 151 = .ok (.aload_n 3, 1) := by decide +kernel
theorem dc_Law_law_152 : decode code 152 = .ok (.invokestatic 60, 3) := by decide +kernel
theorem dc_Law_law_155 : decode code 155 = .ok (.istore 5, 2) := by decide +kernel
theorem dc_Law_law_157 : decode code 157 = .ok (.aload_n 2, 1) := by decide +kernel
theorem dc_Law_law_158 : decode code 158 = .ok (.aload_n 0, 1) := by decide +kernel
theorem dc_Law_law_159 : decode code 159 = .ok (.iload 4, 2) := by decide +kernel
theorem dc_Law_law_161 : decode code 161 = .ok (.iconst 1, 1) := by decide +kernel
theorem dc_Law_law_162 : decode code 162 = .ok (.iadd, 1) := by decide +kernel
theorem dc_Law_law_163 : decode code 163 = .ok (.iaload, 1) := by decide +kernel
theorem dc_Law_law_164 : decode code 164 = .ok (.aload_n 0, 1) := by decide +kernel
theorem dc_Law_law_165 : decode code 165 = .ok (.iload 4, 2) := by decide +kernel
theorem dc_Law_law_167 : decode code 167 = .ok (.iconst 2, 1) := by decide +kernel
theorem dc_Law_law_168 : decode code 168 = .ok (.iadd, 1) := by decide +kernel
theorem dc_Law_law_169 : decode code 169 = .ok (.iaload, 1) := by decide +kernel
theorem dc_Law_law_170 : decode code 170 = .ok (.aload_n 0, 1) := by decide +kernel
theorem dc_Law_law_171 : decode code 171 = .ok (.iload 4, 2) := by decide +kernel
theorem dc_Law_law_173 : decode code 173 = .ok (.iconst 3, 1) := by decide +kernel
theorem dc_Law_law_174 : decode code 174 = .ok (.iadd, 1) := by decide +kernel
theorem dc_Law_law_175 : decode code 175 = .ok (.iaload, 1) := by decide +kernel
theorem dc_Law_law_176 : decode code 176 = .ok (.aload_n 0, 1) := by decide +kernel
theorem dc_Law_law_177 : decode code 177 = .ok (.iload 4, 2) := by decide +kernel
theorem dc_Law_law_179 : decode code 179 = .ok (.iconst 4, 1) := by decide +kernel
theorem dc_Law_law_180 : decode code 180 = .ok (.iadd, 1) := by decide +kernel
theorem dc_Law_law_181 : decode code 181 = .ok (.iaload, 1) := by decide +kernel
theorem dc_Law_law_182 : decode code 182 = .ok (.aload_n 0, 1) := by decide +kernel
theorem dc_Law_law_183 : decode code 183 = .ok (.iload 4, 2) := by decide +kernel
theorem dc_Law_law_185 : decode code 185 = .ok (.iconst 5, 1) := by decide +kernel
theorem dc_Law_law_186 : decode code 186 = .ok (.iadd, 1) := by decide +kernel
theorem dc_Law_law_187 : decode code 187 = .ok (.iaload, 1) := by decide +kernel
theorem dc_Law_law_188 : decode code 188 = .ok (.invokevirtual 65, 3) := by decide +kernel
theorem dc_Law_law_191 : decode code 191 = .ok (.istore 6, 2) := by decide +kernel
theorem dc_Law_law_193 : decode code 193 = .ok (.aload_n 2, 1) := by decide +kernel
theorem dc_Law_law_194 : decode code 194 = .ok (.invokevirtual 66, 3) := by decide +kernel
theorem dc_Law_law_197 : decode code 197 = .ok (.iload 5, 2) := by decide +kernel
theorem dc_Law_law_199 : decode code 199 = .ok (.if_icmp .eq 5, 3) := by decide +kernel
theorem dc_Law_law_202 : decode code 202 = .ok (.iconst 0, 1) := by decide +kernel
theorem dc_Law_law_203 : decode code 203 = .ok (.ireturn, 1) := by decide +kernel
theorem dc_Law_law_204 : decode code 204 = .ok (.iload 5, 2) := by decide +kernel
theorem dc_Law_law_206 : decode code 206 = .ok (.ifCond .ne 15, 3) := by decide +kernel
theorem dc_Law_law_209 : decode code 209 = .ok (.aload_n 3, 1) := by decide +kernel
theorem dc_Law_law_210 : decode code 210 = .ok (.iconst 0, 1) := by decide +kernel
theorem dc_Law_law_211 : decode code 211 = .ok (.laload, 1) := by decide +kernel
theorem dc_Law_law_212 : decode code 212 = .ok (.iload 6, 2) := by decide +kernel
theorem dc_Law_law_214 : decode code 214 = .ok (.i2l, 1) := by decide +kernel
theorem dc_Law_law_215 : decode code 215 = .ok (.lcmp, 1) := by decide +kernel
theorem dc_Law_law_216 : decode code 216 = .ok (.ifCond .eq 5, 3) := by decide +kernel
theorem dc_Law_law_219 : decode code 219 = .ok (.iconst 0, 1) := by decide +kernel
theorem dc_Law_law_220 : decode code 220 = .ok (.ireturn, 1) := by decide +kernel
theorem dc_Law_law_221 : decode code 221 = .ok (.goto 767, 3) := by decide +kernel
theorem dc_Law_law_224 : decode code 224 = .ok (.aload_n 1, 1) := by decide +kernel
theorem dc_Law_law_225 : decode code 225 = .ok (.invokevirtual 70, 3) := by decide +kernel
theorem dc_Law_law_228 : decode code 228 = .ok (.aload_n 2, 1) := by decide +kernel
theorem dc_Law_law_229 : decode code 229 = .ok (.invokevirtual 73, 3) := by decide +kernel
theorem dc_Law_law_232 : decode code 232 = .ok (.if_icmp .eq 756, 3) := by decide +kernel
theorem dc_Law_law_235 : decode code 235 = .ok (.iconst 0, 1) := by decide +kernel
theorem dc_Law_law_236 : decode code 236 = .ok (.ireturn, 1) := by decide +kernel
theorem dc_Law_law_237 : decode code 237 = .ok (.aload_n 1, 1) := by decide +kernel
theorem dc_Law_law_238 : decode code 238 = .ok (.aload_n 0, 1) := by decide +kernel
theorem dc_Law_law_239 : decode code 239 = .ok (.iload 4, 2) := by decide +kernel
theorem dc_Law_law_241 : decode code 241 = .ok (.iconst 1, 1) := by decide +kernel
theorem dc_Law_law_242 : decode code 242 = .ok (.iadd, 1) := by decide +kernel
theorem dc_Law_law_243 : decode code 243 = .ok (.iaload, 1) := by decide +kernel
theorem dc_Law_law_244 : decode code 244 = .ok (.aload_n 3, 1) := by decide +kernel
theorem dc_Law_law_245 : decode code 245 = .ok (.invokestatic 74, 3) := by decide +kernel
theorem dc_Law_law_248 : decode code 248 = .ok (.istore 5, 2) := by decide +kernel
theorem dc_Law_law_250 : decode code 250 = .ok (.aload_n 2, 1) := by decide +kernel
theorem dc_Law_law_251 : decode code 251 = .ok (.aload_n 0, 1) := by decide +kernel
theorem dc_Law_law_252 : decode code 252 = .ok (.iload 4, 2) := by decide +kernel
theorem dc_Law_law_254 : decode code 254 = .ok (.iconst 1, 1) := by decide +kernel
theorem dc_Law_law_255 : decode code 255 = .ok (.iadd, 1) := by decide +kernel
theorem dc_Law_law_256 : decode code 256 = .ok (.iaload, 1) := by decide +kernel
theorem dc_Law_law_257 : decode code 257 = .ok (.invokevirtual 77, 3) := by decide +kernel
theorem dc_Law_law_260 : decode code 260 = .ok (.istore 6, 2) := by decide +kernel
theorem dc_Law_law_262 : decode code 262 = .ok (.aload_n 2, 1) := by decide +kernel
theorem dc_Law_law_263 : decode code 263 = .ok (.invokevirtual 66, 3) := by decide +kernel
theorem dc_Law_law_266 : decode code 266 = .ok (.iload 5, 2) := by decide +kernel
theorem dc_Law_law_268 : decode code 268 = .ok (.if_icmp .eq 5, 3) := by decide +kernel
theorem dc_Law_law_271 : decode code 271 = .ok (.iconst 0, 1) := by decide +kernel
theorem dc_Law_law_272 : decode code 272 = .ok (.ireturn, 1) := by decide +kernel
theorem dc_Law_law_273 : decode code 273 = .ok (.iload 5, 2) := by decide +kernel
theorem dc_Law_law_275 : decode code 275 = .ok (.ifCond .ne 15, 3) := by decide +kernel
theorem dc_Law_law_278 : decode code 278 = .ok (.aload_n 3, 1) := by decide +kernel
theorem dc_Law_law_279 : decode code 279 = .ok (.iconst 0, 1) := by decide +kernel
theorem dc_Law_law_280 : decode code 280 = .ok (.laload, 1) := by decide +kernel
theorem dc_Law_law_281 : decode code 281 = .ok (.iload 6, 2) := by decide +kernel
theorem dc_Law_law_283 : decode code 283 = .ok (.i2l, 1) := by decide +kernel
theorem dc_Law_law_284 : decode code 284 = .ok (.lcmp, 1) := by decide +kernel
theorem dc_Law_law_285 : decode code 285 = .ok (.ifCond .eq 5, 3) := by decide +kernel
theorem dc_Law_law_288 : decode code 288 = .ok (.iconst 0, 1) := by decide +kernel
theorem dc_Law_law_289 : decode code 289 = .ok (.ireturn, 1) := by decide +kernel
theorem dc_Law_law_290 : decode code 290 = .ok (.goto 698, 3) := by decide +kernel
theorem dc_Law_law_293 : decode code 293 = .ok (.aload_n 1, 1) := by decide +kernel
theorem dc_Law_law_294 : decode code 294 = .ok (.aload_n 0, 1) := by decide +kernel
theorem dc_Law_law_295 : decode code 295 = .ok (.iload 4, 2) := by decide +kernel
theorem dc_Law_law_297 : decode code 297 = .ok (.iconst 1, 1) := by decide +kernel
theorem dc_Law_law_298 : decode code 298 = .ok (.iadd, 1) := by decide +kernel
theorem dc_Law_law_299 : decode code 299 = .ok (.iaload, 1) := by decide +kernel
theorem dc_Law_law_300 : decode code 300 = .ok (.aload_n 3, 1) := by decide +kernel
theorem dc_Law_law_301 : decode code 301 = .ok (.invokestatic 78, 3) := by decide +kernel
theorem dc_Law_law_304 : decode code 304 = .ok (.istore 5, 2) := by decide +kernel
theorem dc_Law_law_306 : decode code 306 = .ok (.aload_n 2, 1) := by decide +kernel
theorem dc_Law_law_307 : decode code 307 = .ok (.aload_n 0, 1) := by decide +kernel
theorem dc_Law_law_308 : decode code 308 = .ok (.iload 4, 2) := by decide +kernel
theorem dc_Law_law_310 : decode code 310 = .ok (.iconst 1, 1) := by decide +kernel
theorem dc_Law_law_311 : decode code 311 = .ok (.iadd, 1) := by decide +kernel
theorem dc_Law_law_312 : decode code 312 = .ok (.iaload, 1) := by decide +kernel
theorem dc_Law_law_313 : decode code 313 = .ok (.invokevirtual 80, 3) := by decide +kernel
theorem dc_Law_law_316 : decode code 316 = .ok (.istore 6, 2) := by decide +kernel
theorem dc_Law_law_318 : decode code 318 = .ok (.aload_n 2, 1) := by decide +kernel
theorem dc_Law_law_319 : decode code 319 = .ok (.invokevirtual 66, 3) := by decide +kernel
theorem dc_Law_law_322 : decode code 322 = .ok (.iload 5, 2) := by decide +kernel
theorem dc_Law_law_324 : decode code 324 = .ok (.if_icmp .eq 5, 3) := by decide +kernel
theorem dc_Law_law_327 : decode code 327 = .ok (.iconst 0, 1) := by decide +kernel
theorem dc_Law_law_328 : decode code 328 = .ok (.ireturn, 1) := by decide +kernel
theorem dc_Law_law_329 : decode code 329 = .ok (.iload 5, 2) := by decide +kernel
theorem dc_Law_law_331 : decode code 331 = .ok (.ifCond .ne 15, 3) := by decide +kernel
theorem dc_Law_law_334 : decode code 334 = .ok (.aload_n 3, 1) := by decide +kernel
theorem dc_Law_law_335 : decode code 335 = .ok (.iconst 0, 1) := by decide +kernel
theorem dc_Law_law_336 : decode code 336 = .ok (.laload, 1) := by decide +kernel
theorem dc_Law_law_337 : decode code 337 = .ok (.iload 6, 2) := by decide +kernel
theorem dc_Law_law_339 : decode code 339 = .ok (.i2l, 1) := by decide +kernel
theorem dc_Law_law_340 : decode code 340 = .ok (.lcmp, 1) := by decide +kernel
theorem dc_Law_law_341 : decode code 341 = .ok (.ifCond .eq 5, 3) := by decide +kernel
theorem dc_Law_law_344 : decode code 344 = .ok (.iconst 0, 1) := by decide +kernel
theorem dc_Law_law_345 : decode code 345 = .ok (.ireturn, 1) := by decide +kernel
theorem dc_Law_law_346 : decode code 346 = .ok (.goto 642, 3) := by decide +kernel
theorem dc_Law_law_349 : decode code 349 = .ok (.aload_n 1, 1) := by decide +kernel
theorem dc_Law_law_350 : decode code 350 = .ok (.aload_n 0, 1) := by decide +kernel
theorem dc_Law_law_351 : decode code 351 = .ok (.iload 4, 2) := by decide +kernel
theorem dc_Law_law_353 : decode code 353 = .ok (.iconst 1, 1) := by decide +kernel
theorem dc_Law_law_354 : decode code 354 = .ok (.iadd, 1) := by decide +kernel
theorem dc_Law_law_355 : decode code 355 = .ok (.iaload, 1) := by decide +kernel
theorem dc_Law_law_356 : decode code 356 = .ok (.aload_n 3, 1) := by decide +kernel
theorem dc_Law_law_357 : decode code 357 = .ok (.invokestatic 81, 3) := by decide +kernel
theorem dc_Law_law_360 : decode code 360 = .ok (.istore 5, 2) := by decide +kernel
theorem dc_Law_law_362 : decode code 362 = .ok (.aload_n 2, 1) := by decide +kernel
theorem dc_Law_law_363 : decode code 363 = .ok (.aload_n 0, 1) := by decide +kernel
theorem dc_Law_law_364 : decode code 364 = .ok (.iload 4, 2) := by decide +kernel
theorem dc_Law_law_366 : decode code 366 = .ok (.iconst 1, 1) := by decide +kernel
theorem dc_Law_law_367 : decode code 367 = .ok (.iadd, 1) := by decide +kernel
theorem dc_Law_law_368 : decode code 368 = .ok (.iaload, 1) := by decide +kernel
theorem dc_Law_law_369 : decode code 369 = .ok (.invokevirtual 83, 3) := by decide +kernel
theorem dc_Law_law_372 : decode code 372 = .ok (.istore 6, 2) := by decide +kernel
theorem dc_Law_law_374 : decode code 374 = .ok (.aload_n 2, 1) := by decide +kernel
theorem dc_Law_law_375 : decode code 375 = .ok (.invokevirtual 66, 3) := by decide +kernel
theorem dc_Law_law_378 : decode code 378 = .ok (.iload 5, 2) := by decide +kernel
theorem dc_Law_law_380 : decode code 380 = .ok (.if_icmp .eq 5, 3) := by decide +kernel
theorem dc_Law_law_383 : decode code 383 = .ok (.iconst 0, 1) := by decide +kernel
theorem dc_Law_law_384 : decode code 384 = .ok (.ireturn, 1) := by decide +kernel
theorem dc_Law_law_385 : decode code 385 = .ok (.iload 5, 2) := by decide +kernel
theorem dc_Law_law_387 : decode code 387 = .ok (.ifCond .ne 15, 3) := by decide +kernel
theorem dc_Law_law_390 : decode code 390 = .ok (.aload_n 3, 1) := by decide +kernel
theorem dc_Law_law_391 : decode code 391 = .ok (.iconst 0, 1) := by decide +kernel
theorem dc_Law_law_392 : decode code 392 = .ok (.laload, 1) := by decide +kernel
theorem dc_Law_law_393 : decode code 393 = .ok (.iload 6, 2) := by decide +kernel
theorem dc_Law_law_395 : decode code 395 = .ok (.i2l, 1) := by decide +kernel
theorem dc_Law_law_396 : decode code 396 = .ok (.lcmp, 1) := by decide +kernel
theorem dc_Law_law_397 : decode code 397 = .ok (.ifCond .eq 5, 3) := by decide +kernel
theorem dc_Law_law_400 : decode code 400 = .ok (.iconst 0, 1) := by decide +kernel
theorem dc_Law_law_401 : decode code 401 = .ok (.ireturn, 1) := by decide +kernel
theorem dc_Law_law_402 : decode code 402 = .ok (.goto 586, 3) := by decide +kernel
theorem dc_Law_law_405 : decode code 405 = .ok (.aload_n 1, 1) := by decide +kernel
theorem dc_Law_law_406 : decode code 406 = .ok (.aload_n 0, 1) := by decide +kernel
theorem dc_Law_law_407 : decode code 407 = .ok (.iload 4, 2) := by decide +kernel
theorem dc_Law_law_409 : decode code 409 = .ok (.iconst 1, 1) := by decide +kernel
theorem dc_Law_law_410 : decode code 410 = .ok (.iadd, 1) := by decide +kernel
theorem dc_Law_law_411 : decode code 411 = .ok (.iaload, 1) := by decide +kernel
theorem dc_Law_law_412 : decode code 412 = .ok (.aload_n 0, 1) := by decide +kernel
theorem dc_Law_law_413 : decode code 413 = .ok (.iload 4, 2) := by decide +kernel
theorem dc_Law_law_415 : decode code 415 = .ok (.iconst 2, 1) := by decide +kernel
theorem dc_Law_law_416 : decode code 416 = .ok (.iadd, 1) := by decide +kernel
theorem dc_Law_law_417 : decode code 417 = .ok (.iaload, 1) := by decide +kernel
theorem dc_Law_law_418 : decode code 418 = .ok (.aload_n 0, 1) := by decide +kernel
theorem dc_Law_law_419 : decode code 419 = .ok (.iload 4, 2) := by decide +kernel
theorem dc_Law_law_421 : decode code 421 = .ok (.iconst 3, 1) := by decide +kernel
theorem dc_Law_law_422 : decode code 422 = .ok (.iadd, 1) := by decide +kernel
theorem dc_Law_law_423 : decode code 423 = .ok (.iaload, 1) := by decide +kernel
theorem dc_Law_law_424 : decode code 424 = .ok (.aload_n 3, 1) := by decide +kernel
theorem dc_Law_law_425 : decode code 425 = .ok (.invokestatic 84, 3) := by decide +kernel
theorem dc_Law_law_428 : decode code 428 = .ok (.istore 5, 2) := by decide +kernel
theorem dc_Law_law_430 : decode code 430 = .ok (.aload_n 2, 1) := by decide +kernel
theorem dc_Law_law_431 : decode code 431 = .ok (.aload_n 0, 1) := by decide +kernel
theorem dc_Law_law_432 : decode code 432 = .ok (.iload 4, 2) := by decide +kernel
theorem dc_Law_law_434 : decode code 434 = .ok (.iconst 1, 1) := by decide +kernel
theorem dc_Law_law_435 : decode code 435 = .ok (.iadd, 1) := by decide +kernel
theorem dc_Law_law_436 : decode code 436 = .ok (.iaload, 1) := by decide +kernel
theorem dc_Law_law_437 : decode code 437 = .ok (.aload_n 0, 1) := by decide +kernel
theorem dc_Law_law_438 : decode code 438 = .ok (.iload 4, 2) := by decide +kernel
theorem dc_Law_law_440 : decode code 440 = .ok (.iconst 2, 1) := by decide +kernel
theorem dc_Law_law_441 : decode code 441 = .ok (.iadd, 1) := by decide +kernel
theorem dc_Law_law_442 : decode code 442 = .ok (.iaload, 1) := by decide +kernel
theorem dc_Law_law_443 : decode code 443 = .ok (.aload_n 0, 1) := by decide +kernel
theorem dc_Law_law_444 : decode code 444 = .ok (.iload 4, 2) := by decide +kernel
theorem dc_Law_law_446 : decode code 446 = .ok (.iconst 3, 1) := by decide +kernel
theorem dc_Law_law_447 : decode code 447 = .ok (.iadd, 1) := by decide +kernel
theorem dc_Law_law_448 : decode code 448 = .ok (.iaload, 1) := by decide +kernel
theorem dc_Law_law_449 : decode code 449 = .ok (.invokevirtual 87, 3) := by decide +kernel
theorem dc_Law_law_452 : decode code 452 = .ok (.istore 6, 2) := by decide +kernel
theorem dc_Law_law_454 : decode code 454 = .ok (.aload_n 2, 1) := by decide +kernel
theorem dc_Law_law_455 : decode code 455 = .ok (.invokevirtual 66, 3) := by decide +kernel
theorem dc_Law_law_458 : decode code 458 = .ok (.iload 5, 2) := by decide +kernel
theorem dc_Law_law_460 : decode code 460 = .ok (.if_icmp .eq 5, 3) := by decide +kernel
theorem dc_Law_law_463 : decode code 463 = .ok (.iconst 0, 1) := by decide +kernel
theorem dc_Law_law_464 : decode code 464 = .ok (.ireturn, 1) := by decide +kernel
theorem dc_Law_law_465 : decode code 465 = .ok (.iload 5, 2) := by decide +kernel
theorem dc_Law_law_467 : decode code 467 = .ok (.ifCond .ne 15, 3) := by decide +kernel
theorem dc_Law_law_470 : decode code 470 = .ok (.aload_n 3, 1) := by decide +kernel
theorem dc_Law_law_471 : decode code 471 = .ok (.iconst 0, 1) := by decide +kernel
theorem dc_Law_law_472 : decode code 472 = .ok (.laload, 1) := by decide +kernel
theorem dc_Law_law_473 : decode code 473 = .ok (.iload 6, 2) := by decide +kernel
theorem dc_Law_law_475 : decode code 475 = .ok (.i2l, 1) := by decide +kernel
theorem dc_Law_law_476 : decode code 476 = .ok (.lcmp, 1) := by decide +kernel
theorem dc_Law_law_477 : decode code 477 = .ok (.ifCond .eq 5, 3) := by decide +kernel
theorem dc_Law_law_480 : decode code 480 = .ok (.iconst 0, 1) := by decide +kernel
theorem dc_Law_law_481 : decode code 481 = .ok (.ireturn, 1) := by decide +kernel
theorem dc_Law_law_482 : decode code 482 = .ok (.goto 506, 3) := by decide +kernel
theorem dc_Law_law_485 : decode code 485 = .ok (.aload_n 1, 1) := by decide +kernel
theorem dc_Law_law_486 : decode code 486 = .ok (.aload_n 0, 1) := by decide +kernel
theorem dc_Law_law_487 : decode code 487 = .ok (.iload 4, 2) := by decide +kernel
theorem dc_Law_law_489 : decode code 489 = .ok (.iconst 1, 1) := by decide +kernel
theorem dc_Law_law_490 : decode code 490 = .ok (.iadd, 1) := by decide +kernel
theorem dc_Law_law_491 : decode code 491 = .ok (.iaload, 1) := by decide +kernel
theorem dc_Law_law_492 : decode code 492 = .ok (.aload_n 0, 1) := by decide +kernel
theorem dc_Law_law_493 : decode code 493 = .ok (.iload 4, 2) := by decide +kernel
theorem dc_Law_law_495 : decode code 495 = .ok (.iconst 2, 1) := by decide +kernel
theorem dc_Law_law_496 : decode code 496 = .ok (.iadd, 1) := by decide +kernel
theorem dc_Law_law_497 : decode code 497 = .ok (.iaload, 1) := by decide +kernel
theorem dc_Law_law_498 : decode code 498 = .ok (.aload_n 0, 1) := by decide +kernel
theorem dc_Law_law_499 : decode code 499 = .ok (.iload 4, 2) := by decide +kernel
theorem dc_Law_law_501 : decode code 501 = .ok (.iconst 3, 1) := by decide +kernel
theorem dc_Law_law_502 : decode code 502 = .ok (.iadd, 1) := by decide +kernel
theorem dc_Law_law_503 : decode code 503 = .ok (.iaload, 1) := by decide +kernel
theorem dc_Law_law_504 : decode code 504 = .ok (.aload_n 0, 1) := by decide +kernel
theorem dc_Law_law_505 : decode code 505 = .ok (.iload 4, 2) := by decide +kernel
theorem dc_Law_law_507 : decode code 507 = .ok (.iconst 4, 1) := by decide +kernel
theorem dc_Law_law_508 : decode code 508 = .ok (.iadd, 1) := by decide +kernel
theorem dc_Law_law_509 : decode code 509 = .ok (.iaload, 1) := by decide +kernel
theorem dc_Law_law_510 : decode code 510 = .ok (.aload_n 3, 1) := by decide +kernel
theorem dc_Law_law_511 : decode code 511 = .ok (.invokestatic 88, 3) := by decide +kernel
theorem dc_Law_law_514 : decode code 514 = .ok (.istore 5, 2) := by decide +kernel
theorem dc_Law_law_516 : decode code 516 = .ok (.aload_n 2, 1) := by decide +kernel
theorem dc_Law_law_517 : decode code 517 = .ok (.aload_n 0, 1) := by decide +kernel
theorem dc_Law_law_518 : decode code 518 = .ok (.iload 4, 2) := by decide +kernel
theorem dc_Law_law_520 : decode code 520 = .ok (.iconst 1, 1) := by decide +kernel
theorem dc_Law_law_521 : decode code 521 = .ok (.iadd, 1) := by decide +kernel
theorem dc_Law_law_522 : decode code 522 = .ok (.iaload, 1) := by decide +kernel
theorem dc_Law_law_523 : decode code 523 = .ok (.aload_n 0, 1) := by decide +kernel
theorem dc_Law_law_524 : decode code 524 = .ok (.iload 4, 2) := by decide +kernel
theorem dc_Law_law_526 : decode code 526 = .ok (.iconst 2, 1) := by decide +kernel
theorem dc_Law_law_527 : decode code 527 = .ok (.iadd, 1) := by decide +kernel
theorem dc_Law_law_528 : decode code 528 = .ok (.iaload, 1) := by decide +kernel
theorem dc_Law_law_529 : decode code 529 = .ok (.aload_n 0, 1) := by decide +kernel
theorem dc_Law_law_530 : decode code 530 = .ok (.iload 4, 2) := by decide +kernel
theorem dc_Law_law_532 : decode code 532 = .ok (.iconst 3, 1) := by decide +kernel
theorem dc_Law_law_533 : decode code 533 = .ok (.iadd, 1) := by decide +kernel
theorem dc_Law_law_534 : decode code 534 = .ok (.iaload, 1) := by decide +kernel
theorem dc_Law_law_535 : decode code 535 = .ok (.aload_n 0, 1) := by decide +kernel
theorem dc_Law_law_536 : decode code 536 = .ok (.iload 4, 2) := by decide +kernel
theorem dc_Law_law_538 : decode code 538 = .ok (.iconst 4, 1) := by decide +kernel
theorem dc_Law_law_539 : decode code 539 = .ok (.iadd, 1) := by decide +kernel
theorem dc_Law_law_540 : decode code 540 = .ok (.iaload, 1) := by decide +kernel
theorem dc_Law_law_541 : decode code 541 = .ok (.invokevirtual 91, 3) := by decide +kernel
theorem dc_Law_law_544 : decode code 544 = .ok (.istore 6, 2) := by decide +kernel
theorem dc_Law_law_546 : decode code 546 = .ok (.aload_n 2, 1) := by decide +kernel
theorem dc_Law_law_547 : decode code 547 = .ok (.invokevirtual 66, 3) := by decide +kernel
theorem dc_Law_law_550 : decode code 550 = .ok (.iload 5, 2) := by decide +kernel
theorem dc_Law_law_552 : decode code 552 = .ok (.if_icmp .eq 5, 3) := by decide +kernel
theorem dc_Law_law_555 : decode code 555 = .ok (.iconst 0, 1) := by decide +kernel
theorem dc_Law_law_556 : decode code 556 = .ok (.ireturn, 1) := by decide +kernel
theorem dc_Law_law_557 : decode code 557 = .ok (.iload 5, 2) := by decide +kernel
theorem dc_Law_law_559 : decode code 559 = .ok (.ifCond .ne 15, 3) := by decide +kernel
theorem dc_Law_law_562 : decode code 562 = .ok (.aload_n 3, 1) := by decide +kernel
theorem dc_Law_law_563 : decode code 563 = .ok (.iconst 0, 1) := by decide +kernel
theorem dc_Law_law_564 : decode code 564 = .ok (.laload, 1) := by decide +kernel
theorem dc_Law_law_565 : decode code 565 = .ok (.iload 6, 2) := by decide +kernel
theorem dc_Law_law_567 : decode code 567 = .ok (.i2l, 1) := by decide +kernel
theorem dc_Law_law_568 : decode code 568 = .ok (.lcmp, 1) := by decide +kernel
theorem dc_Law_law_569 : decode code 569 = .ok (.ifCond .eq 5, 3) := by decide +kernel
theorem dc_Law_law_572 : decode code 572 = .ok (.iconst 0, 1) := by decide +kernel
theorem dc_Law_law_573 : decode code 573 = .ok (.ireturn, 1) := by decide +kernel
theorem dc_Law_law_574 : decode code 574 = .ok (.goto 414, 3) := by decide +kernel
theorem dc_Law_law_577 : decode code 577 = .ok (.aload_n 1, 1) := by decide +kernel
theorem dc_Law_law_578 : decode code 578 = .ok (.invokevirtual 92, 3) := by decide +kernel
theorem dc_Law_law_581 : decode code 581 = .ok (.aload_n 2, 1) := by decide +kernel
theorem dc_Law_law_582 : decode code 582 = .ok (.invokevirtual 95, 3) := by decide +kernel
theorem dc_Law_law_585 : decode code 585 = .ok (.if_icmp .eq 403, 3) := by decide +kernel
theorem dc_Law_law_588 : decode code 588 = .ok (.iconst 0, 1) := by decide +kernel
theorem dc_Law_law_589 : decode code 589 = .ok (.ireturn, 1) := by decide +kernel
theorem dc_Law_law_590 : decode code 590 = .ok (.aload_n 1, 1) := by decide +kernel
theorem dc_Law_law_591 : decode code 591 = .ok (.invokevirtual 96, 3) := by decide +kernel
theorem dc_Law_law_594 : decode code 594 = .ok (.aload_n 2, 1) := by decide +kernel
theorem dc_Law_law_595 : decode code 595 = .ok (.invokevirtual 99, 3) := by decide +kernel
theorem dc_Law_law_598 : decode code 598 = .ok (.if_icmp .eq 390, 3) := by decide +kernel
theorem dc_Law_law_601 : decode code 601 = .ok (.iconst 0, 1) := by decide +kernel
theorem dc_Law_law_602 : decode code 602 = .ok (.ireturn, 1) := by decide +kernel
theorem dc_Law_law_603 : decode code 603 = .ok (.aload_n 1, 1) := by decide +kernel
theorem dc_Law_law_604 : decode code 604 = .ok (.aload_n 0, 1) := by decide +kernel
theorem dc_Law_law_605 : decode code 605 = .ok (.iload 4, 2) := by decide +kernel
theorem dc_Law_law_607 : decode code 607 = .ok (.iconst 1, 1) := by decide +kernel
theorem dc_Law_law_608 : decode code 608 = .ok (.iadd, 1) := by decide +kernel
theorem dc_Law_law_609 : decode code 609 = .ok (.iaload, 1) := by decide +kernel
theorem dc_Law_law_610 : decode code 610 = .ok (.aload_n 0, 1) := by decide +kernel
theorem dc_Law_law_611 : decode code 611 = .ok (.iload 4, 2) := by decide +kernel
theorem dc_Law_law_613 : decode code 613 = .ok (.iconst 2, 1) := by decide +kernel
theorem dc_Law_law_614 : decode code 614 = .ok (.iadd, 1) := by decide +kernel
theorem dc_Law_law_615 : decode code 615 = .ok (.iaload, 1) := by decide +kernel
theorem dc_Law_law_616 : decode code 616 = .ok (.aload_n 3, 1) := by decide +kernel
theorem dc_Law_law_617 : decode code 617 = .ok (.invokestatic 100, 3) := by decide +kernel
theorem dc_Law_law_620 : decode code 620 = .ok (.istore 5, 2) := by decide +kernel
theorem dc_Law_law_622 : decode code 622 = .ok (.aload_n 2, 1) := by decide +kernel
theorem dc_Law_law_623 : decode code 623 = .ok (.aload_n 0, 1) := by decide +kernel
theorem dc_Law_law_624 : decode code 624 = .ok (.iload 4, 2) := by decide +kernel
theorem dc_Law_law_626 : decode code 626 = .ok (.iconst 1, 1) := by decide +kernel
theorem dc_Law_law_627 : decode code 627 = .ok (.iadd, 1) := by decide +kernel
theorem dc_Law_law_628 : decode code 628 = .ok (.iaload, 1) := by decide +kernel
theorem dc_Law_law_629 : decode code 629 = .ok (.aload_n 0, 1) := by decide +kernel
theorem dc_Law_law_630 : decode code 630 = .ok (.iload 4, 2) := by decide +kernel
theorem dc_Law_law_632 : decode code 632 = .ok (.iconst 2, 1) := by decide +kernel
theorem dc_Law_law_633 : decode code 633 = .ok (.iadd, 1) := by decide +kernel
theorem dc_Law_law_634 : decode code 634 = .ok (.iaload, 1) := by decide +kernel
theorem dc_Law_law_635 : decode code 635 = .ok (.invokevirtual 103, 3) := by decide +kernel
theorem dc_Law_law_638 : decode code 638 = .ok (.istore 6, 2) := by decide +kernel
theorem dc_Law_law_640 : decode code 640 = .ok (.aload_n 2, 1) := by decide +kernel
theorem dc_Law_law_641 : decode code 641 = .ok (.invokevirtual 66, 3) := by decide +kernel
theorem dc_Law_law_644 : decode code 644 = .ok (.iload 5, 2) := by decide +kernel
theorem dc_Law_law_646 : decode code 646 = .ok (.if_icmp .eq 5, 3) := by decide +kernel
theorem dc_Law_law_649 : decode code 649 = .ok (.iconst 0, 1) := by decide +kernel
theorem dc_Law_law_650 : decode code 650 = .ok (.ireturn, 1) := by decide +kernel
theorem dc_Law_law_651 : decode code 651 = .ok (.iload 5, 2) := by decide +kernel
theorem dc_Law_law_653 : decode code 653 = .ok (.ifCond .ne 15, 3) := by decide +kernel
theorem dc_Law_law_656 : decode code 656 = .ok (.aload_n 3, 1) := by decide +kernel
theorem dc_Law_law_657 : decode code 657 = .ok (.iconst 0, 1) := by decide +kernel
theorem dc_Law_law_658 : decode code 658 = .ok (.laload, 1) := by decide +kernel
theorem dc_Law_law_659 : decode code 659 = .ok (.iload 6, 2) := by decide +kernel
theorem dc_Law_law_661 : decode code 661 = .ok (.i2l, 1) := by decide +kernel
theorem dc_Law_law_662 : decode code 662 = .ok (.lcmp, 1) := by decide +kernel
theorem dc_Law_law_663 : decode code 663 = .ok (.ifCond .eq 5, 3) := by decide +kernel
theorem dc_Law_law_666 : decode code 666 = .ok (.iconst 0, 1) := by decide +kernel
theorem dc_Law_law_667 : decode code 667 = .ok (.ireturn, 1) := by decide +kernel
theorem dc_Law_law_668 : decode code 668 = .ok (.goto 320, 3) := by decide +kernel
theorem dc_Law_law_671 : decode code 671 = .ok (.aload_n 1, 1) := by decide +kernel
theorem dc_Law_law_672 : decode code 672 = .ok (.invokevirtual 104, 3) := by decide +kernel
theorem dc_Law_law_675 : decode code 675 = .ok (.aload_n 2, 1) := by decide +kernel
theorem dc_Law_law_676 : decode code 676 = .ok (.invokevirtual 107, 3) := by decide +kernel
theorem dc_Law_law_679 : decode code 679 = .ok (.if_icmp .eq 309, 3) := by decide +kernel
theorem dc_Law_law_682 : decode code 682 = .ok (.iconst 0, 1) := by decide +kernel
theorem dc_Law_law_683 : decode code 683 = .ok (.ireturn, 1) := by decide +kernel
theorem dc_Law_law_684 : decode code 684 = .ok (.aload_n 1, 1) := by decide +kernel
theorem dc_Law_law_685 : decode code 685 = .ok (.aload_n 0, 1) := by decide +kernel
theorem dc_Law_law_686 : decode code 686 = .ok (.iload 4, 2) := by decide +kernel
theorem dc_Law_law_688 : decode code 688 = .ok (.iconst 1, 1) := by decide +kernel
theorem dc_Law_law_689 : decode code 689 = .ok (.iadd, 1) := by decide +kernel
theorem dc_Law_law_690 : decode code 690 = .ok (.iaload, 1) := by decide +kernel
theorem dc_Law_law_691 : decode code 691 = .ok (.aload_n 0, 1) := by decide +kernel
theorem dc_Law_law_692 : decode code 692 = .ok (.iload 4, 2) := by decide +kernel
theorem dc_Law_law_694 : decode code 694 = .ok (.iconst 2, 1) := by decide +kernel
theorem dc_Law_law_695 : decode code 695 = .ok (.iadd, 1) := by decide +kernel
theorem dc_Law_law_696 : decode code 696 = .ok (.iaload, 1) := by decide +kernel
theorem dc_Law_law_697 : decode code 697 = .ok (.aload_n 3, 1) := by decide +kernel
theorem dc_Law_law_698 : decode code 698 = .ok (.invokestatic 108, 3) := by decide +kernel
theorem dc_Law_law_701 : decode code 701 = .ok (.istore 5, 2) := by decide +kernel
theorem dc_Law_law_703 : decode code 703 = .ok (.aload_n 2, 1) := by decide +kernel
theorem dc_Law_law_704 : decode code 704 = .ok (.aload_n 0, 1) := by decide +kernel
theorem dc_Law_law_705 : decode code 705 = .ok (.iload 4, 2) := by decide +kernel
theorem dc_Law_law_707 : decode code 707 = .ok (.iconst 1, 1) := by decide +kernel
theorem dc_Law_law_708 : decode code 708 = .ok (.iadd, 1) := by decide +kernel
theorem dc_Law_law_709 : decode code 709 = .ok (.iaload, 1) := by decide +kernel
theorem dc_Law_law_710 : decode code 710 = .ok (.aload_n 0, 1) := by decide +kernel
theorem dc_Law_law_711 : decode code 711 = .ok (.iload 4, 2) := by decide +kernel
theorem dc_Law_law_713 : decode code 713 = .ok (.iconst 2, 1) := by decide +kernel
theorem dc_Law_law_714 : decode code 714 = .ok (.iadd, 1) := by decide +kernel
theorem dc_Law_law_715 : decode code 715 = .ok (.iaload, 1) := by decide +kernel
theorem dc_Law_law_716 : decode code 716 = .ok (.invokevirtual 110, 3) := by decide +kernel
theorem dc_Law_law_719 : decode code 719 = .ok (.istore 6, 2) := by decide +kernel
theorem dc_Law_law_721 : decode code 721 = .ok (.aload_n 2, 1) := by decide +kernel
theorem dc_Law_law_722 : decode code 722 = .ok (.invokevirtual 66, 3) := by decide +kernel
theorem dc_Law_law_725 : decode code 725 = .ok (.iload 5, 2) := by decide +kernel
theorem dc_Law_law_727 : decode code 727 = .ok (.if_icmp .eq 5, 3) := by decide +kernel
theorem dc_Law_law_730 : decode code 730 = .ok (.iconst 0, 1) := by decide +kernel
theorem dc_Law_law_731 : decode code 731 = .ok (.ireturn, 1) := by decide +kernel
theorem dc_Law_law_732 : decode code 732 = .ok (.iload 5, 2) := by decide +kernel
theorem dc_Law_law_734 : decode code 734 = .ok (.ifCond .ne 15, 3) := by decide +kernel
theorem dc_Law_law_737 : decode code 737 = .ok (.aload_n 3, 1) := by decide +kernel
theorem dc_Law_law_738 : decode code 738 = .ok (.iconst 0, 1) := by decide +kernel
theorem dc_Law_law_739 : decode code 739 = .ok (.laload, 1) := by decide +kernel
theorem dc_Law_law_740 : decode code 740 = .ok (.iload 6, 2) := by decide +kernel
theorem dc_Law_law_742 : decode code 742 = .ok (.i2l, 1) := by decide +kernel
theorem dc_Law_law_743 : decode code 743 = .ok (.lcmp, 1) := by decide +kernel
theorem dc_Law_law_744 : decode code 744 = .ok (.ifCond .eq 5, 3) := by decide +kernel
theorem dc_Law_law_747 : decode code 747 = .ok (.iconst 0, 1) := by decide +kernel
theorem dc_Law_law_748 : decode code 748 = .ok (.ireturn, 1) := by decide +kernel
theorem dc_Law_law_749 : decode code 749 = .ok (.goto 239, 3) := by decide +kernel
theorem dc_Law_law_752 : decode code 752 = .ok (.aload_n 1, 1) := by decide +kernel
theorem dc_Law_law_753 : decode code 753 = .ok (.aload_n 0, 1) := by decide +kernel
theorem dc_Law_law_754 : decode code 754 = .ok (.iload 4, 2) := by decide +kernel
theorem dc_Law_law_756 : decode code 756 = .ok (.iconst 1, 1) := by decide +kernel
theorem dc_Law_law_757 : decode code 757 = .ok (.iadd, 1) := by decide +kernel
theorem dc_Law_law_758 : decode code 758 = .ok (.iaload, 1) := by decide +kernel
theorem dc_Law_law_759 : decode code 759 = .ok (.aload_n 3, 1) := by decide +kernel
theorem dc_Law_law_760 : decode code 760 = .ok (.invokestatic 111, 3) := by decide +kernel
theorem dc_Law_law_763 : decode code 763 = .ok (.istore 5, 2) := by decide +kernel
theorem dc_Law_law_765 : decode code 765 = .ok (.aload_n 2, 1) := by decide +kernel
theorem dc_Law_law_766 : decode code 766 = .ok (.aload_n 0, 1) := by decide +kernel
theorem dc_Law_law_767 : decode code 767 = .ok (.iload 4, 2) := by decide +kernel
theorem dc_Law_law_769 : decode code 769 = .ok (.iconst 1, 1) := by decide +kernel
theorem dc_Law_law_770 : decode code 770 = .ok (.iadd, 1) := by decide +kernel
theorem dc_Law_law_771 : decode code 771 = .ok (.iaload, 1) := by decide +kernel
theorem dc_Law_law_772 : decode code 772 = .ok (.invokevirtual 113, 3) := by decide +kernel
theorem dc_Law_law_775 : decode code 775 = .ok (.istore 6, 2) := by decide +kernel
theorem dc_Law_law_777 : decode code 777 = .ok (.aload_n 2, 1) := by decide +kernel
theorem dc_Law_law_778 : decode code 778 = .ok (.invokevirtual 66, 3) := by decide +kernel
theorem dc_Law_law_781 : decode code 781 = .ok (.iload 5, 2) := by decide +kernel
theorem dc_Law_law_783 : decode code 783 = .ok (.if_icmp .eq 5, 3) := by decide +kernel
theorem dc_Law_law_786 : decode code 786 = .ok (.iconst 0, 1) := by decide +kernel
theorem dc_Law_law_787 : decode code 787 = .ok (.ireturn, 1) := by decide +kernel
theorem dc_Law_law_788 : decode code 788 = .ok (.iload 5, 2) := by decide +kernel
theorem dc_Law_law_790 : decode code 790 = .ok (.ifCond .ne 15, 3) := by decide +kernel
theorem dc_Law_law_793 : decode code 793 = .ok (.aload_n 3, 1) := by decide +kernel
theorem dc_Law_law_794 : decode code 794 = .ok (.iconst 0, 1) := by decide +kernel
theorem dc_Law_law_795 : decode code 795 = .ok (.laload, 1) := by decide +kernel
theorem dc_Law_law_796 : decode code 796 = .ok (.iload 6, 2) := by decide +kernel
theorem dc_Law_law_798 : decode code 798 = .ok (.i2l, 1) := by decide +kernel
theorem dc_Law_law_799 : decode code 799 = .ok (.lcmp, 1) := by decide +kernel
theorem dc_Law_law_800 : decode code 800 = .ok (.ifCond .eq 5, 3) := by decide +kernel
theorem dc_Law_law_803 : decode code 803 = .ok (.iconst 0, 1) := by decide +kernel
theorem dc_Law_law_804 : decode code 804 = .ok (.ireturn, 1) := by decide +kernel
theorem dc_Law_law_805 : decode code 805 = .ok (.goto 183, 3) := by decide +kernel
theorem dc_Law_law_808 : decode code 808 = .ok (.aload_n 1, 1) := by decide +kernel
theorem dc_Law_law_809 : decode code 809 = .ok (.aload_n 0, 1) := by decide +kernel
theorem dc_Law_law_810 : decode code 810 = .ok (.iload 4, 2) := by decide +kernel
theorem dc_Law_law_812 : decode code 812 = .ok (.iconst 1, 1) := by decide +kernel
theorem dc_Law_law_813 : decode code 813 = .ok (.iadd, 1) := by decide +kernel
theorem dc_Law_law_814 : decode code 814 = .ok (.iaload, 1) := by decide +kernel
theorem dc_Law_law_815 : decode code 815 = .ok (.aload_n 3, 1) := by decide +kernel
theorem dc_Law_law_816 : decode code 816 = .ok (.invokestatic 114, 3) := by decide +kernel
theorem dc_Law_law_819 : decode code 819 = .ok (.istore 5, 2) := by decide +kernel
theorem dc_Law_law_821 : decode code 821 = .ok (.aload_n 2, 1) := by decide +kernel
theorem dc_Law_law_822 : decode code 822 = .ok (.aload_n 0, 1) := by decide +kernel
theorem dc_Law_law_823 : decode code 823 = .ok (.iload 4, 2) := by decide +kernel
theorem dc_Law_law_825 : decode code 825 = .ok (.iconst 1, 1) := by decide +kernel
theorem dc_Law_law_826 : decode code 826 = .ok (.iadd, 1) := by decide +kernel
theorem dc_Law_law_827 : decode code 827 = .ok (.iaload, 1) := by decide +kernel
theorem dc_Law_law_828 : decode code 828 = .ok (.invokevirtual 116, 3) := by decide +kernel
theorem dc_Law_law_831 : decode code 831 = .ok (.istore 6, 2) := by decide +kernel
theorem dc_Law_law_833 : decode code 833 = .ok (.aload_n 2, 1) := by decide +kernel
theorem dc_Law_law_834 : decode code 834 = .ok (.invokevirtual 66, 3) := by decide +kernel
theorem dc_Law_law_837 : decode code 837 = .ok (.iload 5, 2) := by decide +kernel
theorem dc_Law_law_839 : decode code 839 = .ok (.if_icmp .eq 5, 3) := by decide +kernel
theorem dc_Law_law_842 : decode code 842 = .ok (.iconst 0, 1) := by decide +kernel
theorem dc_Law_law_843 : decode code 843 = .ok (.ireturn, 1) := by decide +kernel
theorem dc_Law_law_844 : decode code 844 = .ok (.iload 5, 2) := by decide +kernel
theorem dc_Law_law_846 : decode code 846 = .ok (.ifCond .ne 15, 3) := by decide +kernel
theorem dc_Law_law_849 : decode code 849 = .ok (.aload_n 3, 1) := by decide +kernel
theorem dc_Law_law_850 : decode code 850 = .ok (.iconst 0, 1) := by decide +kernel
theorem dc_Law_law_851 : decode code 851 = .ok (.laload, 1) := by decide +kernel
theorem dc_Law_law_852 : decode code 852 = .ok (.iload 6, 2) := by decide +kernel
theorem dc_Law_law_854 : decode code 854 = .ok (.i2l, 1) := by decide +kernel
theorem dc_Law_law_855 : decode code 855 = .ok (.lcmp, 1) := by decide +kernel
theorem dc_Law_law_856 : decode code 856 = .ok (.ifCond .eq 5, 3) := by decide +kernel
theorem dc_Law_law_859 : decode code 859 = .ok (.iconst 0, 1) := by decide +kernel
theorem dc_Law_law_860 : decode code 860 = .ok (.ireturn, 1) := by decide +kernel
theorem dc_Law_law_861 : decode code 861 = .ok (.goto 127, 3) := by decide +kernel
theorem dc_Law_law_864 : decode code 864 = .ok (.aload_n 1, 1) := by decide +kernel
theorem dc_Law_law_865 : decode code 865 = .ok (.aload_n 0, 1) := by decide +kernel
theorem dc_Law_law_866 : decode code 866 = .ok (.iload 4, 2) := by decide +kernel
theorem dc_Law_law_868 : decode code 868 = .ok (.iconst 1, 1) := by decide +kernel
theorem dc_Law_law_869 : decode code 869 = .ok (.iadd, 1) := by decide +kernel
theorem dc_Law_law_870 : decode code 870 = .ok (.iaload, 1) := by decide +kernel
theorem dc_Law_law_871 : decode code 871 = .ok (.aload_n 0, 1) := by decide +kernel
theorem dc_Law_law_872 : decode code 872 = .ok (.iload 4, 2) := by decide +kernel
theorem dc_Law_law_874 : decode code 874 = .ok (.iconst 2, 1) := by decide +kernel
theorem dc_Law_law_875 : decode code 875 = .ok (.iadd, 1) := by decide +kernel
theorem dc_Law_law_876 : decode code 876 = .ok (.iaload, 1) := by decide +kernel
theorem dc_Law_law_877 : decode code 877 = .ok (.aload_n 3, 1) := by decide +kernel
theorem dc_Law_law_878 : decode code 878 = .ok (.invokestatic 117, 3) := by decide +kernel
theorem dc_Law_law_881 : decode code 881 = .ok (.istore 5, 2) := by decide +kernel
theorem dc_Law_law_883 : decode code 883 = .ok (.aload_n 2, 1) := by decide +kernel
theorem dc_Law_law_884 : decode code 884 = .ok (.aload_n 0, 1) := by decide +kernel
theorem dc_Law_law_885 : decode code 885 = .ok (.iload 4, 2) := by decide +kernel
theorem dc_Law_law_887 : decode code 887 = .ok (.iconst 1, 1) := by decide +kernel
theorem dc_Law_law_888 : decode code 888 = .ok (.iadd, 1) := by decide +kernel
theorem dc_Law_law_889 : decode code 889 = .ok (.iaload, 1) := by decide +kernel
theorem dc_Law_law_890 : decode code 890 = .ok (.aload_n 0, 1) := by decide +kernel
theorem dc_Law_law_891 : decode code 891 = .ok (.iload 4, 2) := by decide +kernel
theorem dc_Law_law_893 : decode code 893 = .ok (.iconst 2, 1) := by decide +kernel
theorem dc_Law_law_894 : decode code 894 = .ok (.iadd, 1) := by decide +kernel
theorem dc_Law_law_895 : decode code 895 = .ok (.iaload, 1) := by decide +kernel
theorem dc_Law_law_896 : decode code 896 = .ok (.invokevirtual 119, 3) := by decide +kernel
theorem dc_Law_law_899 : decode code 899 = .ok (.istore 6, 2) := by decide +kernel
theorem dc_Law_law_901 : decode code 901 = .ok (.aload_n 2, 1) := by decide +kernel
theorem dc_Law_law_902 : decode code 902 = .ok (.invokevirtual 66, 3) := by decide +kernel
theorem dc_Law_law_905 : decode code 905 = .ok (.iload 5, 2) := by decide +kernel
theorem dc_Law_law_907 : decode code 907 = .ok (.if_icmp .eq 5, 3) := by decide +kernel
theorem dc_Law_law_910 : decode code 910 = .ok (.iconst 0, 1) := by decide +kernel
theorem dc_Law_law_911 : decode code 911 = .ok (.ireturn, 1) := by decide +kernel
theorem dc_Law_law_912 : decode code 912 = .ok (.iload 5, 2) := by decide +kernel
theorem dc_Law_law_914 : decode code 914 = .ok (.ifCond .ne 15, 3) := by decide +kernel
theorem dc_Law_law_917 : decode code 917 = .ok (.aload_n 3, 1) := by decide +kernel
theorem dc_Law_law_918 : decode code 918 = .ok (.iconst 0, 1) := by decide +kernel
theorem dc_Law_law_919 : decode code 919 = .ok (.laload, 1) := by decide +kernel
theorem dc_Law_law_920 : decode code 920 = .ok (.iload 6, 2) := by decide +kernel
theorem dc_Law_law_922 : decode code 922 = .ok (.i2l, 1) := by decide +kernel
theorem dc_Law_law_923 : decode code 923 = .ok (.lcmp, 1) := by decide +kernel
theorem dc_Law_law_924 : decode code 924 = .ok (.ifCond .eq 5, 3) := by decide +kernel
theorem dc_Law_law_927 : decode code 927 = .ok (.iconst 0, 1) := by decide +kernel
theorem dc_Law_law_928 : decode code 928 = .ok (.ireturn, 1) := by decide +kernel
theorem dc_Law_law_929 : decode code 929 = .ok (.goto 59, 3) := by decide +kernel
theorem dc_Law_law_932 : decode code 932 = .ok (.aload_n 1, 1) := by decide +kernel
theorem dc_Law_law_933 : decode code 933 = .ok (.aload_n 0, 1) := by decide +kernel
theorem dc_Law_law_934 : decode code 934 = .ok (.iload 4, 2) := by decide +kernel
theorem dc_Law_law_936 : decode code 936 = .ok (.iconst 1, 1) := by decide +kernel
theorem dc_Law_law_937 : decode code 937 = .ok (.iadd, 1) := by decide +kernel
theorem dc_Law_law_938 : decode code 938 = .ok (.iaload, 1) := by decide +kernel
theorem dc_Law_law_939 : decode code 939 = .ok (.aload_n 3, 1) := by decide +kernel
theorem dc_Law_law_940 : decode code 940 = .ok (.invokestatic 120, 3) := by decide +kernel
theorem dc_Law_law_943 : decode code 943 = .ok (.istore 5, 2) := by decide +kernel
theorem dc_Law_law_945 : decode code 945 = .ok (.aload_n 2, 1) := by decide +kernel
theorem dc_Law_law_946 : decode code 946 = .ok (.aload_n 0, 1) := by decide +kernel
theorem dc_Law_law_947 : decode code 947 = .ok (.iload 4, 2) := by decide +kernel
theorem dc_Law_law_949 : decode code 949 = .ok (.iconst 1, 1) := by decide +kernel
theorem dc_Law_law_950 : decode code 950 = .ok (.iadd, 1) := by decide +kernel
theorem dc_Law_law_951 : decode code 951 = .ok (.iaload, 1) := by decide +kernel
theorem dc_Law_law_952 : decode code 952 = .ok (.invokevirtual 122, 3) := by decide +kernel
theorem dc_Law_law_955 : decode code 955 = .ok (.istore 6, 2) := by decide +kernel
theorem dc_Law_law_957 : decode code 957 = .ok (.aload_n 2, 1) := by decide +kernel
theorem dc_Law_law_958 : decode code 958 = .ok (.invokevirtual 66, 3) := by decide +kernel
theorem dc_Law_law_961 : decode code 961 = .ok (.iload 5, 2) := by decide +kernel
theorem dc_Law_law_963 : decode code 963 = .ok (.if_icmp .eq 5, 3) := by decide +kernel
theorem dc_Law_law_966 : decode code 966 = .ok (.iconst 0, 1) := by decide +kernel
theorem dc_Law_law_967 : decode code 967 = .ok (.ireturn, 1) := by decide +kernel
theorem dc_Law_law_968 : decode code 968 = .ok (.iload 5, 2) := by decide +kernel
theorem dc_Law_law_970 : decode code 970 = .ok (.ifCond .ne 15, 3) := by decide +kernel
theorem dc_Law_law_973 : decode code 973 = .ok (.aload_n 3, 1) := by decide +kernel
theorem dc_Law_law_974 : decode code 974 = .ok (.iconst 0, 1) := by decide +kernel
theorem dc_Law_law_975 : decode code 975 = .ok (.laload, 1) := by decide +kernel
theorem dc_Law_law_976 : decode code 976 = .ok (.iload 6, 2) := by decide +kernel
theorem dc_Law_law_978 : decode code 978 = .ok (.i2l, 1) := by decide +kernel
theorem dc_Law_law_979 : decode code 979 = .ok (.lcmp, 1) := by decide +kernel
theorem dc_Law_law_980 : decode code 980 = .ok (.ifCond .eq 5, 3) := by decide +kernel
theorem dc_Law_law_983 : decode code 983 = .ok (.iconst 0, 1) := by decide +kernel
theorem dc_Law_law_984 : decode code 984 = .ok (.ireturn, 1) := by decide +kernel
theorem dc_Law_law_985 : decode code 985 = .ok (.goto 3, 3) := by decide +kernel
theorem dc_Law_law_988 : decode code 988 = .ok (.iinc 4 6, 3) := by decide +kernel
theorem dc_Law_law_991 : decode code 991 = .ok (.goto (-968), 3) := by decide +kernel
theorem dc_Law_law_994 : decode code 994 = .ok (.iconst 1, 1) := by decide +kernel
theorem dc_Law_law_995 : decode code 995 = .ok (.ireturn, 1) := by decide +kernel
