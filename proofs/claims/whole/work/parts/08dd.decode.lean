theorem dc_LR_init_0 : decode prog_1_method_1_code 0 = .ok (.aload_n 0, 1) := by decide +kernel
theorem dc_LR_init_1 : decode prog_1_method_1_code 1 = .ok (.invokespecial 1, 3) := by decide +kernel
theorem dc_LR_init_4 : decode prog_1_method_1_code 4 = .ok (.aload_n 0, 1) := by decide +kernel
theorem dc_LR_init_5 : decode prog_1_method_1_code 5 = .ok (.new 7, 3) := by decide +kernel
theorem dc_LR_init_8 : decode prog_1_method_1_code 8 = .ok (.dup, 1) := by decide +kernel
theorem dc_LR_init_9 : decode prog_1_method_1_code 9 = .ok (.bipush 120, 2) := by decide +kernel
theorem dc_LR_init_11 : decode prog_1_method_1_code 11 = .ok (.invokespecial 11, 3) := by decide +kernel
theorem dc_LR_init_14 : decode prog_1_method_1_code 14 = .ok (.putfield 14, 3) := by decide +kernel
theorem dc_LR_init_17 : decode prog_1_method_1_code 17 = .ok (.aload_n 0, 1) := by decide +kernel
theorem dc_LR_init_18 : decode prog_1_method_1_code 18 = .ok (.bipush 6, 2) := by decide +kernel
theorem dc_LR_init_20 : decode prog_1_method_1_code 20 = .ok (.anewarray 7, 3) := by decide +kernel
theorem dc_LR_init_23 : decode prog_1_method_1_code 23 = .ok (.putfield 18, 3) := by decide +kernel
theorem dc_LR_init_26 : decode prog_1_method_1_code 26 = .ok (.aload_n 0, 1) := by decide +kernel
theorem dc_LR_init_27 : decode prog_1_method_1_code 27 = .ok (.bipush 6, 2) := by decide +kernel
theorem dc_LR_init_29 : decode prog_1_method_1_code 29 = .ok (.anewarray 22, 3) := by decide +kernel
theorem dc_LR_init_32 : decode prog_1_method_1_code 32 = .ok (.putfield 24, 3) := by decide +kernel
theorem dc_LR_init_35 : decode prog_1_method_1_code 35 = .ok (.aload_n 0, 1) := by decide +kernel
theorem dc_LR_init_36 : decode prog_1_method_1_code 36 = .ok (.new 28, 3) := by decide +kernel
theorem dc_LR_init_39 : decode prog_1_method_1_code 39 = .ok (.dup, 1) := by decide +kernel
theorem dc_LR_init_40 : decode prog_1_method_1_code 40 = .ok (.invokespecial 30, 3) := by decide +kernel
theorem dc_LR_init_43 : decode prog_1_method_1_code 43 = .ok (.putfield 31, 3) := by decide +kernel
theorem dc_LR_init_46 : decode prog_1_method_1_code 46 = .ok (.aload_n 0, 1) := by decide +kernel
theorem dc_LR_init_47 : decode prog_1_method_1_code 47 = .ok (.bipush 12, 2) := by decide +kernel
theorem dc_LR_init_49 : decode prog_1_method_1_code 49 = .ok (.anewarray 35, 3) := by decide +kernel
theorem dc_LR_init_52 : decode prog_1_method_1_code 52 = .ok (.putfield 37, 3) := by decide +kernel
theorem dc_LR_init_55 : decode prog_1_method_1_code 55 = .ok (.aload_n 0, 1) := by decide +kernel
theorem dc_LR_init_56 : decode prog_1_method_1_code 56 = .ok (.new 41, 3) := by decide +kernel
theorem dc_LR_init_59 : decode prog_1_method_1_code 59 = .ok (.dup, 1) := by decide +kernel
theorem dc_LR_init_60 : decode prog_1_method_1_code 60 = .ok (.invokespecial 43, 3) := by decide +kernel
theorem dc_LR_init_63 : decode prog_1_method_1_code 63 = .ok (.putfield 44, 3) := by decide +kernel
theorem dc_LR_init_66 : decode prog_1_method_1_code 66 = .ok (.aload_n 0, 1) := by decide +kernel
theorem dc_LR_init_67 : decode prog_1_method_1_code 67 = .ok (.bipush 8, 2) := by decide +kernel
theorem dc_LR_init_69 : decode prog_1_method_1_code 69 = .ok (.newarray .int, 2) := by decide +kernel
theorem dc_LR_init_71 : decode prog_1_method_1_code 71 = .ok (.putfield 48, 3) := by decide +kernel
theorem dc_LR_init_74 : decode prog_1_method_1_code 74 = .ok (.aload_n 0, 1) := by decide +kernel
theorem dc_LR_init_75 : decode prog_1_method_1_code 75 = .ok (.new 52, 3) := by decide +kernel
theorem dc_LR_init_78 : decode prog_1_method_1_code 78 = .ok (.dup, 1) := by decide +kernel
theorem dc_LR_init_79 : decode prog_1_method_1_code 79 = .ok (.invokespecial 54, 3) := by decide +kernel
theorem dc_LR_init_82 : decode prog_1_method_1_code 82 = .ok (.putfield 55, 3) := by decide +kernel
theorem dc_LR_init_85 : decode prog_1_method_1_code 85 = .ok (.aload_n 0, 1) := by decide +kernel
theorem dc_LR_init_86 : decode prog_1_method_1_code 86 = .ok (.new 59, 3) := by decide +kernel
theorem dc_LR_init_89 : decode prog_1_method_1_code 89 = .ok (.dup, 1) := by decide +kernel
theorem dc_LR_init_90 : decode prog_1_method_1_code 90 = .ok (.invokespecial 61, 3) := by decide +kernel
theorem dc_LR_init_93 : decode prog_1_method_1_code 93 = .ok (.putfield 62, 3) := by decide +kernel
theorem dc_LR_init_96 : decode prog_1_method_1_code 96 = .ok (.aload_n 0, 1) := by decide +kernel
theorem dc_LR_init_97 : decode prog_1_method_1_code 97 = .ok (.new 7, 3) := by decide +kernel
theorem dc_LR_init_100 : decode prog_1_method_1_code 100 = .ok (.dup, 1) := by decide +kernel
theorem dc_LR_init_101 : decode prog_1_method_1_code 101 = .ok (.bipush 11, 2) := by decide +kernel
theorem dc_LR_init_103 : decode prog_1_method_1_code 103 = .ok (.invokespecial 11, 3) := by decide +kernel
theorem dc_LR_init_106 : decode prog_1_method_1_code 106 = .ok (.putfield 66, 3) := by decide +kernel
theorem dc_LR_init_109 : decode prog_1_method_1_code 109 = .ok (.aload_n 0, 1) := by decide +kernel
theorem dc_LR_init_110 : decode prog_1_method_1_code 110 = .ok (.bipush 32, 2) := by decide +kernel
theorem dc_LR_init_112 : decode prog_1_method_1_code 112 = .ok (.putfield 69, 3) := by decide +kernel
theorem dc_LR_init_115 : decode prog_1_method_1_code 115 = .ok (.aload_n 0, 1) := by decide +kernel
theorem dc_LR_init_116 : decode prog_1_method_1_code 116 = .ok (.iconst (-1), 1) := by decide +kernel
theorem dc_LR_init_117 : decode prog_1_method_1_code 117 = .ok (.putfield 73, 3) := by decide +kernel
theorem dc_LR_init_120 : decode prog_1_method_1_code 120 = .ok (.iconst 0, 1) := by decide +kernel
theorem dc_LR_init_121 : decode prog_1_method_1_code 121 = .ok (.istore_n 1, 1) := by decide +kernel
theorem dc_LR_init_122 : decode prog_1_method_1_code 122 = .ok (.iload_n 1, 1) := by decide +kernel
theorem dc_LR_init_123 : decode prog_1_method_1_code 123 = .ok (.bipush 6, 2) := by decide +kernel
theorem dc_LR_init_125 : decode prog_1_method_1_code 125 = .ok (.if_icmp .ge 24, 3) := by decide +kernel
theorem dc_LR_init_128 : decode prog_1_method_1_code 128 = .ok (.aload_n 0, 1) := by decide +kernel
theorem dc_LR_init_129 : decode prog_1_method_1_code 129 = .ok (.getfield 18, 3) := by decide +kernel
theorem dc_LR_init_132 : decode prog_1_method_1_code 132 = .ok (.iload_n 1, 1) := by decide +kernel
theorem dc_LR_init_133 : decode prog_1_method_1_code 133 = .ok (.new 7, 3) := by decide +kernel
theorem dc_LR_init_136 : decode prog_1_method_1_code 136 = .ok (.dup, 1) := by decide +kernel
theorem dc_LR_init_137 : decode prog_1_method_1_code 137 = .ok (.bipush 120, 2) := by decide +kernel
theorem dc_LR_init_139 : decode prog_1_method_1_code 139 = .ok (.invokespecial 11, 3) := by decide +kernel
theorem dc_LR_init_142 : decode prog_1_method_1_code 142 = .ok (.aastore, 1) := by decide +kernel
theorem dc_LR_init_143 : decode prog_1_method_1_code 143 = .ok (.iinc 1 1, 3) := by decide +kernel
theorem dc_LR_init_146 : decode prog_1_method_1_code 146 = .ok (.goto (-24), 3) := by decide +kernel
theorem dc_LR_init_149 : decode prog_1_method_1_code 149 = .ok (.iconst 0, 1) := by decide +kernel
theorem dc_LR_init_150 : decode prog_1_method_1_code 150 = .ok (.istore_n 1, 1) := by decide +kernel
theorem dc_LR_init_151 : decode prog_1_method_1_code 151 = .ok (.iload_n 1, 1) := by decide +kernel
theorem dc_LR_init_152 : decode prog_1_method_1_code 152 = .ok (.bipush 6, 2) := by decide +kernel
theorem dc_LR_init_154 : decode prog_1_method_1_code 154 = .ok (.if_icmp .ge 22, 3) := by decide +kernel
theorem dc_LR_init_157 : decode prog_1_method_1_code 157 = .ok (.aload_n 0, 1) := by decide +kernel
theorem dc_LR_init_158 : decode prog_1_method_1_code 158 = .ok (.getfield 24, 3) := by decide +kernel
theorem dc_LR_init_161 : decode prog_1_method_1_code 161 = .ok (.iload_n 1, 1) := by decide +kernel
theorem dc_LR_init_162 : decode prog_1_method_1_code 162 = .ok (.new 22, 3) := by decide +kernel
theorem dc_LR_init_165 : decode prog_1_method_1_code 165 = .ok (.dup, 1) := by decide +kernel
theorem dc_LR_init_166 : decode prog_1_method_1_code 166 = .ok (.invokespecial 76, 3) := by decide +kernel
theorem dc_LR_init_169 : decode prog_1_method_1_code 169 = .ok (.aastore, 1) := by decide +kernel
theorem dc_LR_init_170 : decode prog_1_method_1_code 170 = .ok (.iinc 1 1, 3) := by decide +kernel
theorem dc_LR_init_173 : decode prog_1_method_1_code 173 = .ok (.goto (-22), 3) := by decide +kernel
theorem dc_LR_init_176 : decode prog_1_method_1_code 176 = .ok (.iconst 0, 1) := by decide +kernel
theorem dc_LR_init_177 : decode prog_1_method_1_code 177 = .ok (.istore_n 1, 1) := by decide +kernel
theorem dc_LR_init_178 : decode prog_1_method_1_code 178 = .ok (.iload_n 1, 1) := by decide +kernel
theorem dc_LR_init_179 : decode prog_1_method_1_code 179 = .ok (.bipush 12, 2) := by decide +kernel
theorem dc_LR_init_181 : decode prog_1_method_1_code 181 = .ok (.if_icmp .ge 22, 3) := by decide +kernel
theorem dc_LR_init_184 : decode prog_1_method_1_code 184 = .ok (.aload_n 0, 1) := by decide +kernel
theorem dc_LR_init_185 : decode prog_1_method_1_code 185 = .ok (.getfield 37, 3) := by decide +kernel
theorem dc_LR_init_188 : decode prog_1_method_1_code 188 = .ok (.iload_n 1, 1) := by decide +kernel
theorem dc_LR_init_189 : decode prog_1_method_1_code 189 = .ok (.new 35, 3) := by decide +kernel
theorem dc_LR_init_192 : decode prog_1_method_1_code 192 = .ok (.dup, 1) := by decide +kernel
theorem dc_LR_init_193 : decode prog_1_method_1_code 193 = .ok (.invokespecial 77, 3) := by decide +kernel
theorem dc_LR_init_196 : decode prog_1_method_1_code 196 = .ok (.aastore, 1) := by decide +kernel
theorem dc_LR_init_197 : decode prog_1_method_1_code 197 = .ok (.iinc 1 1, 3) := by decide +kernel
theorem dc_LR_init_200 : decode prog_1_method_1_code 200 = .ok (.goto (-22), 3) := by decide +kernel
theorem dc_LR_init_203 : decode prog_1_method_1_code 203 = .ok (.return_, 1) := by decide +kernel
theorem dc_LR_feed_0 : decode prog_1_method_2_code 0 = .ok (.iload_n 1, 1) := by decide +kernel
theorem dc_LR_feed_1 : decode prog_1_method_2_code 1 = .ok (.invokestatic 78, 3) := by decide +kernel
theorem dc_LR_feed_4 : decode prog_1_method_2_code 4 = .ok (.iload_n 2, 1) := by decide +kernel
theorem dc_LR_feed_5 : decode prog_1_method_2_code 5 = .ok (.invokestatic 78, 3) := by decide +kernel
theorem dc_LR_feed_8 : decode prog_1_method_2_code 8 = .ok (.iadd, 1) := by decide +kernel
theorem dc_LR_feed_9 : decode prog_1_method_2_code 9 = .ok (.iload_n 3, 1) := by decide +kernel
theorem dc_LR_feed_10 : decode prog_1_method_2_code 10 = .ok (.invokestatic 78, 3) := by decide +kernel
theorem dc_LR_feed_13 : decode prog_1_method_2_code 13 = .ok (.iadd, 1) := by decide +kernel
theorem dc_LR_feed_14 : decode prog_1_method_2_code 14 = .ok (.iload 4, 2) := by decide +kernel
theorem dc_LR_feed_16 : decode prog_1_method_2_code 16 = .ok (.invokestatic 78, 3) := by decide +kernel
theorem dc_LR_feed_19 : decode prog_1_method_2_code 19 = .ok (.iadd, 1) := by decide +kernel
theorem dc_LR_feed_20 : decode prog_1_method_2_code 20 = .ok (.iload 5, 2) := by decide +kernel
theorem dc_LR_feed_22 : decode prog_1_method_2_code 22 = .ok (.invokestatic 78, 3) := by decide +kernel
theorem dc_LR_feed_25 : decode prog_1_method_2_code 25 = .ok (.iadd, 1) := by decide +kernel
theorem dc_LR_feed_26 : decode prog_1_method_2_code 26 = .ok (.istore 6, 2) := by decide +kernel
theorem dc_LR_feed_28 : decode prog_1_method_2_code 28 = .ok (.aload_n 0, 1) := by decide +kernel
theorem dc_LR_feed_29 : decode prog_1_method_2_code 29 = .ok (.getfield 14, 3) := by decide +kernel
theorem dc_LR_feed_32 : decode prog_1_method_2_code 32 = .ok (.getfield 82, 3) := by decide +kernel
theorem dc_LR_feed_35 : decode prog_1_method_2_code 35 = .ok (.iload 6, 2) := by decide +kernel
theorem dc_LR_feed_37 : decode prog_1_method_2_code 37 = .ok (.iadd, 1) := by decide +kernel
theorem dc_LR_feed_38 : decode prog_1_method_2_code 38 = .ok (.bipush 120, 2) := by decide +kernel
theorem dc_LR_feed_40 : decode prog_1_method_2_code 40 = .ok (.if_icmp .le 13, 3) := by decide +kernel
theorem dc_LR_feed_43 : decode prog_1_method_2_code 43 = .ok (.new 85, 3) := by decide +kernel
theorem dc_LR_feed_46 : decode prog_1_method_2_code 46 = .ok (.dup, 1) := by decide +kernel
theorem dc_LR_feed_47 : decode prog_1_method_2_code 47 = .ok (.ldc 87, 2) := by decide +kernel
theorem dc_LR_feed_49 : decode prog_1_method_2_code 49 = .ok (.invokespecial 89, 3) := by decide +kernel
theorem dc_LR_feed_52 : decode prog_1_method_2_code 52 = .ok (.athrow, 1) := by decide +kernel
theorem dc_LR_feed_53 : decode prog_1_method_2_code 53 = .ok (.aload_n 0, 1) := by decide +kernel
theorem dc_LR_feed_54 : decode prog_1_method_2_code 54 = .ok (.iload_n 1, 1) := by decide +kernel
theorem dc_LR_feed_55 : decode prog_1_method_2_code 55 = .ok (.invokevirtual 92, 3) := by decide +kernel
theorem dc_LR_feed_58 : decode prog_1_method_2_code 58 = .ok (.aload_n 0, 1) := by decide +kernel
theorem dc_LR_feed_59 : decode prog_1_method_2_code 59 = .ok (.iload_n 2, 1) := by decide +kernel
theorem dc_LR_feed_60 : decode prog_1_method_2_code 60 = .ok (.invokevirtual 92, 3) := by decide +kernel
theorem dc_LR_feed_63 : decode prog_1_method_2_code 63 = .ok (.aload_n 0, 1) := by decide +kernel
theorem dc_LR_feed_64 : decode prog_1_method_2_code 64 = .ok (.iload_n 3, 1) := by decide +kernel
theorem dc_LR_feed_65 : decode prog_1_method_2_code 65 = .ok (.invokevirtual 92, 3) := by decide +kernel
theorem dc_LR_feed_68 : decode prog_1_method_2_code 68 = .ok (.aload_n 0, 1) := by decide +kernel
theorem dc_LR_feed_69 : decode prog_1_method_2_code 69 = .ok (.iload 4, 2) := by decide +kernel
theorem dc_LR_feed_71 : decode prog_1_method_2_code 71 = .ok (.invokevirtual 92, 3) := by decide +kernel
theorem dc_LR_feed_74 : decode prog_1_method_2_code 74 = .ok (.aload_n 0, 1) := by decide +kernel
theorem dc_LR_feed_75 : decode prog_1_method_2_code 75 = .ok (.iload 5, 2) := by decide +kernel
theorem dc_LR_feed_77 : decode prog_1_method_2_code 77 = .ok (.invokevirtual 92, 3) := by decide +kernel
theorem dc_LR_feed_80 : decode prog_1_method_2_code 80 = .ok (.aload_n 0, 1) := by decide +kernel
theorem dc_LR_feed_81 : decode prog_1_method_2_code 81 = .ok (.getfield 14, 3) := by decide +kernel
theorem dc_LR_feed_84 : decode prog_1_method_2_code 84 = .ok (.getfield 82, 3) := by decide +kernel
theorem dc_LR_feed_87 : decode prog_1_method_2_code 87 = .ok (.ireturn, 1) := by decide +kernel
theorem dc_LR_clear_0 : decode prog_1_method_3_code 0 = .ok (.aload_n 0, 1) := by decide +kernel
theorem dc_LR_clear_1 : decode prog_1_method_3_code 1 = .ok (.getfield 14, 3) := by decide +kernel
theorem dc_LR_clear_4 : decode prog_1_method_3_code 4 = .ok (.getfield 82, 3) := by decide +kernel
theorem dc_LR_clear_7 : decode prog_1_method_3_code 7 = .ok (.istore_n 1, 1) := by decide +kernel
theorem dc_LR_clear_8 : decode prog_1_method_3_code 8 = .ok (.aload_n 0, 1) := by decide +kernel
theorem dc_LR_clear_9 : decode prog_1_method_3_code 9 = .ok (.getfield 14, 3) := by decide +kernel
theorem dc_LR_clear_12 : decode prog_1_method_3_code 12 = .ok (.invokevirtual 95, 3) := by decide +kernel
theorem dc_LR_clear_15 : decode prog_1_method_3_code 15 = .ok (.iload_n 1, 1) := by decide +kernel
theorem dc_LR_clear_16 : decode prog_1_method_3_code 16 = .ok (.ireturn, 1) := by decide +kernel
theorem dc_LR_expression_0 : decode prog_1_method_4_code 0 = .ok (.iload_n 1, 1) := by decide +kernel
theorem dc_LR_expression_1 : decode prog_1_method_4_code 1 = .ok (.invokestatic 98, 3) := by decide +kernel
theorem dc_LR_expression_4 : decode prog_1_method_4_code 4 = .ok (.ifCond .ne 13, 3) := by decide +kernel
theorem dc_LR_expression_7 : decode prog_1_method_4_code 7 = .ok (.new 102, 3) := by decide +kernel
theorem dc_LR_expression_10 : decode prog_1_method_4_code 10 = .ok (.dup, 1) := by decide +kernel
theorem dc_LR_expression_11 : decode prog_1_method_4_code 11 = .ok (.ldc 104, 2) := by decide +kernel
theorem dc_LR_expression_13 : decode prog_1_method_4_code 13 = .ok (.invokespecial 106, 3) := by decide +kernel
theorem dc_LR_expression_16 : decode prog_1_method_4_code 16 = .ok (.athrow, 1) := by decide +kernel
theorem dc_LR_expression_17 : decode prog_1_method_4_code 17 = .ok (.aload_n 0, 1) := by decide +kernel
theorem dc_LR_expression_18 : decode prog_1_method_4_code 18 = .ok (.getfield 14, 3) := by decide +kernel
theorem dc_LR_expression_21 : decode prog_1_method_4_code 21 = .ok (.getfield 82, 3) := by decide +kernel
theorem dc_LR_expression_24 : decode prog_1_method_4_code 24 = .ok (.bipush 60, 2) := by decide +kernel
theorem dc_LR_expression_26 : decode prog_1_method_4_code 26 = .ok (.if_icmp .le 13, 3) := by decide +kernel
theorem dc_LR_expression_29 : decode prog_1_method_4_code 29 = .ok (.new 85, 3) := by decide +kernel
theorem dc_LR_expression_32 : decode prog_1_method_4_code 32 = .ok (.dup, 1) := by decide +kernel
theorem dc_LR_expression_33 : decode prog_1_method_4_code 33 = .ok (.ldc 107, 2) := by decide +kernel
theorem dc_LR_expression_35 : decode prog_1_method_4_code 35 = .ok (.invokespecial 89, 3) := by decide +kernel
theorem dc_LR_expression_38 : decode prog_1_method_4_code 38 = .ok (.athrow, 1) := by decide +kernel
theorem dc_LR_expression_39 : decode prog_1_method_4_code 39 = .ok (.aload_n 0, 1) := by decide +kernel
theorem dc_LR_expression_40 : decode prog_1_method_4_code 40 = .ok (.getfield 31, 3) := by decide +kernel
theorem dc_LR_expression_43 : decode prog_1_method_4_code 43 = .ok (.aload_n 0, 1) := by decide +kernel
theorem dc_LR_expression_44 : decode prog_1_method_4_code 44 = .ok (.getfield 14, 3) := by decide +kernel
theorem dc_LR_expression_47 : decode prog_1_method_4_code 47 = .ok (.invokevirtual 109, 3) := by decide +kernel
theorem dc_LR_expression_50 : decode prog_1_method_4_code 50 = .ok (.istore_n 2, 1) := by decide +kernel
theorem dc_LR_expression_51 : decode prog_1_method_4_code 51 = .ok (.iload_n 2, 1) := by decide +kernel
theorem dc_LR_expression_52 : decode prog_1_method_4_code 52 = .ok (.iconst (-1), 1) := by decide +kernel
theorem dc_LR_expression_53 : decode prog_1_method_4_code 53 = .ok (.if_icmp .eq 7, 3) := by decide +kernel
theorem dc_LR_expression_56 : decode prog_1_method_4_code 56 = .ok (.iload_n 2, 1) := by decide +kernel
theorem dc_LR_expression_57 : decode prog_1_method_4_code 57 = .ok (.iconst 1, 1) := by decide +kernel
theorem dc_LR_expression_58 : decode prog_1_method_4_code 58 = .ok (.iadd, 1) := by decide +kernel
theorem dc_LR_expression_59 : decode prog_1_method_4_code 59 = .ok (.ireturn, 1) := by decide +kernel
theorem dc_LR_expression_60 : decode prog_1_method_4_code 60 = .ok (.aload_n 0, 1) := by decide +kernel
theorem dc_LR_expression_61 : decode prog_1_method_4_code 61 = .ok (.getfield 24, 3) := by decide +kernel
theorem dc_LR_expression_64 : decode prog_1_method_4_code 64 = .ok (.iload_n 1, 1) := by decide +kernel
theorem dc_LR_expression_65 : decode prog_1_method_4_code 65 = .ok (.aload_n 0, 1) := by decide +kernel
theorem dc_LR_expression_66 : decode prog_1_method_4_code 66 = .ok (.getfield 31, 3) := by decide +kernel
theorem dc_LR_expression_69 : decode prog_1_method_4_code 69 = .ok (.aload_n 0, 1) := by decide +kernel
theorem dc_LR_expression_70 : decode prog_1_method_4_code 70 = .ok (.getfield 24, 3) := by decide +kernel
theorem dc_LR_expression_73 : decode prog_1_method_4_code 73 = .ok (.iload_n 1, 1) := by decide +kernel
theorem dc_LR_expression_74 : decode prog_1_method_4_code 74 = .ok (.aaload, 1) := by decide +kernel
theorem dc_LR_expression_75 : decode prog_1_method_4_code 75 = .ok (.invokevirtual 113, 3) := by decide +kernel
theorem dc_LR_expression_78 : decode prog_1_method_4_code 78 = .ok (.aastore, 1) := by decide +kernel
theorem dc_LR_expression_79 : decode prog_1_method_4_code 79 = .ok (.aload_n 0, 1) := by decide +kernel
theorem dc_LR_expression_80 : decode prog_1_method_4_code 80 = .ok (.getfield 14, 3) := by decide +kernel
theorem dc_LR_expression_83 : decode prog_1_method_4_code 83 = .ok (.invokevirtual 95, 3) := by decide +kernel
theorem dc_LR_expression_86 : decode prog_1_method_4_code 86 = .ok (.iconst 0, 1) := by decide +kernel
theorem dc_LR_expression_87 : decode prog_1_method_4_code 87 = .ok (.ireturn, 1) := by decide +kernel
theorem dc_LR_text_0 : decode prog_1_method_5_code 0 = .ok (.iload_n 1, 1) := by decide +kernel
theorem dc_LR_text_1 : decode prog_1_method_5_code 1 = .ok (.invokestatic 117, 3) := by decide +kernel
theorem dc_LR_text_4 : decode prog_1_method_5_code 4 = .ok (.ifCond .ne 13, 3) := by decide +kernel
theorem dc_LR_text_7 : decode prog_1_method_5_code 7 = .ok (.new 102, 3) := by decide +kernel
theorem dc_LR_text_10 : decode prog_1_method_5_code 10 = .ok (.dup, 1) := by decide +kernel
theorem dc_LR_text_11 : decode prog_1_method_5_code 11 = .ok (.ldc 120, 2) := by decide +kernel
theorem dc_LR_text_13 : decode prog_1_method_5_code 13 = .ok (.invokespecial 106, 3) := by decide +kernel
theorem dc_LR_text_16 : decode prog_1_method_5_code 16 = .ok (.athrow, 1) := by decide +kernel
theorem dc_LR_text_17 : decode prog_1_method_5_code 17 = .ok (.aload_n 0, 1) := by decide +kernel
theorem dc_LR_text_18 : decode prog_1_method_5_code 18 = .ok (.getfield 18, 3) := by decide +kernel
theorem dc_LR_text_21 : decode prog_1_method_5_code 21 = .ok (.iload_n 1, 1) := by decide +kernel
theorem dc_LR_text_22 : decode prog_1_method_5_code 22 = .ok (.aaload, 1) := by decide +kernel
theorem dc_LR_text_23 : decode prog_1_method_5_code 23 = .ok (.aload_n 0, 1) := by decide +kernel
theorem dc_LR_text_24 : decode prog_1_method_5_code 24 = .ok (.getfield 14, 3) := by decide +kernel
theorem dc_LR_text_27 : decode prog_1_method_5_code 27 = .ok (.invokevirtual 122, 3) := by decide +kernel
theorem dc_LR_text_30 : decode prog_1_method_5_code 30 = .ok (.aload_n 0, 1) := by decide +kernel
theorem dc_LR_text_31 : decode prog_1_method_5_code 31 = .ok (.invokevirtual 126, 3) := by decide +kernel
theorem dc_LR_text_34 : decode prog_1_method_5_code 34 = .ok (.ireturn, 1) := by decide +kernel
theorem dc_LR_separator_0 : decode prog_1_method_6_code 0 = .ok (.iload_n 1, 1) := by decide +kernel
theorem dc_LR_separator_1 : decode prog_1_method_6_code 1 = .ok (.iconst 1, 1) := by decide +kernel
theorem dc_LR_separator_2 : decode prog_1_method_6_code 2 = .ok (.if_icmp .lt 10, 3) := by decide +kernel
theorem dc_LR_separator_5 : decode prog_1_method_6_code 5 = .ok (.iload_n 1, 1) := by decide +kernel
theorem dc_LR_separator_6 : decode prog_1_method_6_code 6 = .ok (.sipush 255, 3) := by decide +kernel
theorem dc_LR_separator_9 : decode prog_1_method_6_code 9 = .ok (.if_icmp .le 13, 3) := by decide +kernel
theorem dc_LR_separator_12 : decode prog_1_method_6_code 12 = .ok (.new 130, 3) := by decide +kernel
theorem dc_LR_separator_15 : decode prog_1_method_6_code 15 = .ok (.dup, 1) := by decide +kernel
theorem dc_LR_separator_16 : decode prog_1_method_6_code 16 = .ok (.ldc 132, 2) := by decide +kernel
theorem dc_LR_separator_18 : decode prog_1_method_6_code 18 = .ok (.invokespecial 134, 3) := by decide +kernel
theorem dc_LR_separator_21 : decode prog_1_method_6_code 21 = .ok (.athrow, 1) := by decide +kernel
theorem dc_LR_separator_22 : decode prog_1_method_6_code 22 = .ok (.aload_n 0, 1) := by decide +kernel
theorem dc_LR_separator_23 : decode prog_1_method_6_code 23 = .ok (.getfield 69, 3) := by decide +kernel
theorem dc_LR_separator_26 : decode prog_1_method_6_code 26 = .ok (.istore_n 2, 1) := by decide +kernel
theorem dc_LR_separator_27 : decode prog_1_method_6_code 27 = .ok (.aload_n 0, 1) := by decide +kernel
theorem dc_LR_separator_28 : decode prog_1_method_6_code 28 = .ok (.iload_n 1, 1) := by decide +kernel
theorem dc_LR_separator_29 : decode prog_1_method_6_code 29 = .ok (.putfield 69, 3) := by decide +kernel
theorem dc_LR_separator_32 : decode prog_1_method_6_code 32 = .ok (.iload_n 2, 1) := by decide +kernel
theorem dc_LR_separator_33 : decode prog_1_method_6_code 33 = .ok (.ireturn, 1) := by decide +kernel
theorem dc_LR_rule_0 : decode prog_1_method_7_code 0 = .ok (.iload_n 1, 1) := by decide +kernel
theorem dc_LR_rule_1 : decode prog_1_method_7_code 1 = .ok (.iload_n 2, 1) := by decide +kernel
theorem dc_LR_rule_2 : decode prog_1_method_7_code 2 = .ok (.iload_n 3, 1) := by decide +kernel
theorem dc_LR_rule_3 : decode prog_1_method_7_code 3 = .ok (.invokestatic 135, 3) := by decide +kernel
theorem dc_LR_rule_6 : decode prog_1_method_7_code 6 = .ok (.ifCond .ne 13, 3) := by decide +kernel
theorem dc_LR_rule_9 : decode prog_1_method_7_code 9 = .ok (.new 102, 3) := by decide +kernel
theorem dc_LR_rule_12 : decode prog_1_method_7_code 12 = .ok (.dup, 1) := by decide +kernel
theorem dc_LR_rule_13 : decode prog_1_method_7_code 13 = .ok (.ldc 139, 2) := by decide +kernel
theorem dc_LR_rule_15 : decode prog_1_method_7_code 15 = .ok (.invokespecial 106, 3) := by decide +kernel
theorem dc_LR_rule_18 : decode prog_1_method_7_code 18 = .ok (.athrow, 1) := by decide +kernel
theorem dc_LR_rule_19 : decode prog_1_method_7_code 19 = .ok (.aload_n 0, 1) := by decide +kernel
theorem dc_LR_rule_20 : decode prog_1_method_7_code 20 = .ok (.getfield 141, 3) := by decide +kernel
theorem dc_LR_rule_23 : decode prog_1_method_7_code 23 = .ok (.bipush 12, 2) := by decide +kernel
theorem dc_LR_rule_25 : decode prog_1_method_7_code 25 = .ok (.if_icmp .ne 13, 3) := by decide +kernel
theorem dc_LR_rule_28 : decode prog_1_method_7_code 28 = .ok (.new 85, 3) := by decide +kernel
theorem dc_LR_rule_31 : decode prog_1_method_7_code 31 = .ok (.dup, 1) := by decide +kernel
theorem dc_LR_rule_32 : decode prog_1_method_7_code 32 = .ok (.ldc 144, 2) := by decide +kernel
theorem dc_LR_rule_34 : decode prog_1_method_7_code 34 = .ok (.invokespecial 89, 3) := by decide +kernel
theorem dc_LR_rule_37 : decode prog_1_method_7_code 37 = .ok (.athrow, 1) := by decide +kernel
theorem dc_LR_rule_38 : decode prog_1_method_7_code 38 = .ok (.aload_n 0, 1) := by decide +kernel
theorem dc_LR_rule_39 : decode prog_1_method_7_code 39 = .ok (.getfield 37, 3) := by decide +kernel
theorem dc_LR_rule_42 : decode prog_1_method_7_code 42 = .ok (.aload_n 0, 1) := by decide +kernel
theorem dc_LR_rule_43 : decode prog_1_method_7_code 43 = .ok (.getfield 141, 3) := by decide +kernel
theorem dc_LR_rule_46 : decode prog_1_method_7_code 46 = .ok (.aaload, 1) := by decide +kernel
theorem dc_LR_rule_47 : decode prog_1_method_7_code 47 = .ok (.iload_n 1, 1) := by decide +kernel
theorem dc_LR_rule_48 : decode prog_1_method_7_code 48 = .ok (.iload_n 2, 1) := by decide +kernel
theorem dc_LR_rule_49 : decode prog_1_method_7_code 49 = .ok (.iload_n 3, 1) := by decide +kernel
theorem dc_LR_rule_50 : decode prog_1_method_7_code 50 = .ok (.invokevirtual 146, 3) := by decide +kernel
theorem dc_LR_rule_53 : decode prog_1_method_7_code 53 = .ok (.aload_n 0, 1) := by decide +kernel
theorem dc_LR_rule_54 : decode prog_1_method_7_code 54 = .ok (.dup, 1) := by decide +kernel
theorem dc_LR_rule_55 : decode prog_1_method_7_code 55 = .ok (.getfield 141, 3) := by decide +kernel
theorem dc_LR_rule_58 : decode prog_1_method_7_code 58 = .ok (.iconst 1, 1) := by decide +kernel
theorem dc_LR_rule_59 : decode prog_1_method_7_code 59 = .ok (.iadd, 1) := by decide +kernel
theorem dc_LR_rule_60 : decode prog_1_method_7_code 60 = .ok (.putfield 141, 3) := by decide +kernel
theorem dc_LR_rule_63 : decode prog_1_method_7_code 63 = .ok (.aload_n 0, 1) := by decide +kernel
theorem dc_LR_rule_64 : decode prog_1_method_7_code 64 = .ok (.getfield 141, 3) := by decide +kernel
theorem dc_LR_rule_67 : decode prog_1_method_7_code 67 = .ok (.iconst 1, 1) := by decide +kernel
theorem dc_LR_rule_68 : decode prog_1_method_7_code 68 = .ok (.isub, 1) := by decide +kernel
theorem dc_LR_rule_69 : decode prog_1_method_7_code 69 = .ok (.ireturn, 1) := by decide +kernel
theorem dc_LR_action_0 : decode prog_1_method_8_code 0 = .ok (.iload_n 1, 1) := by decide +kernel
theorem dc_LR_action_1 : decode prog_1_method_8_code 1 = .ok (.ifCond .lt 21, 3) := by decide +kernel
theorem dc_LR_action_4 : decode prog_1_method_8_code 4 = .ok (.iload_n 1, 1) := by decide +kernel
theorem dc_LR_action_5 : decode prog_1_method_8_code 5 = .ok (.aload_n 0, 1) := by decide +kernel
theorem dc_LR_action_6 : decode prog_1_method_8_code 6 = .ok (.getfield 141, 3) := by decide +kernel
theorem dc_LR_action_9 : decode prog_1_method_8_code 9 = .ok (.if_icmp .ge 13, 3) := by decide +kernel
theorem dc_LR_action_12 : decode prog_1_method_8_code 12 = .ok (.iload_n 2, 1) := by decide +kernel
theorem dc_LR_action_13 : decode prog_1_method_8_code 13 = .ok (.iload_n 3, 1) := by decide +kernel
theorem dc_LR_action_14 : decode prog_1_method_8_code 14 = .ok (.iload 4, 2) := by decide +kernel
theorem dc_LR_action_16 : decode prog_1_method_8_code 16 = .ok (.invokestatic 150, 3) := by decide +kernel
theorem dc_LR_action_19 : decode prog_1_method_8_code 19 = .ok (.ifCond .ne 13, 3) := by decide +kernel
theorem dc_LR_action_22 : decode prog_1_method_8_code 22 = .ok (.new 102, 3) := by decide +kernel
theorem dc_LR_action_25 : decode prog_1_method_8_code 25 = .ok (.dup, 1) := by decide +kernel
theorem dc_LR_action_26 : decode prog_1_method_8_code 26 = .ok (.ldc 153, 2) := by decide +kernel
theorem dc_LR_action_28 : decode prog_1_method_8_code 28 = .ok (.invokespecial 106, 3) := by decide +kernel
theorem dc_LR_action_31 : decode prog_1_method_8_code 31 = .ok (.athrow, 1) := by decide +kernel
theorem dc_LR_action_32 : decode prog_1_method_8_code 32 = .ok (.aload_n 0, 1) := by decide +kernel
theorem dc_LR_action_33 : decode prog_1_method_8_code 33 = .ok (.getfield 37, 3) := by decide +kernel
theorem dc_LR_action_36 : decode prog_1_method_8_code 36 = .ok (.iload_n 1, 1) := by decide +kernel
theorem dc_LR_action_37 : decode prog_1_method_8_code 37 = .ok (.aaload, 1) := by decide +kernel
theorem dc_LR_action_38 : decode prog_1_method_8_code 38 = .ok (.invokevirtual 155, 3) := by decide +kernel
theorem dc_LR_action_41 : decode prog_1_method_8_code 41 = .ok (.ifCond .eq 13, 3) := by decide +kernel
theorem dc_LR_action_44 : decode prog_1_method_8_code 44 = .ok (.new 85, 3) := by decide +kernel
theorem dc_LR_action_47 : decode prog_1_method_8_code 47 = .ok (.dup, 1) := by decide +kernel
theorem dc_LR_action_48 : decode prog_1_method_8_code 48 = .ok (.ldc 159, 2) := by decide +kernel
theorem dc_LR_action_50 : decode prog_1_method_8_code 50 = .ok (.invokespecial 89, 3) := by decide +kernel
theorem dc_LR_action_53 : decode prog_1_method_8_code 53 = .ok (.athrow, 1) := by decide +kernel
theorem dc_LR_action_54 : decode prog_1_method_8_code 54 = .ok (.aload_n 0, 1) := by decide +kernel
theorem dc_LR_action_55 : decode prog_1_method_8_code 55 = .ok (.getfield 37, 3) := by decide +kernel
theorem dc_LR_action_58 : decode prog_1_method_8_code 58 = .ok (.iload_n 1, 1) := by decide +kernel
theorem dc_LR_action_59 : decode prog_1_method_8_code 59 = .ok (.aaload, 1) := by decide +kernel
theorem dc_LR_action_60 : decode prog_1_method_8_code 60 = .ok (.iload_n 2, 1) := by decide +kernel
theorem dc_LR_action_61 : decode prog_1_method_8_code 61 = .ok (.iload_n 3, 1) := by decide +kernel
theorem dc_LR_action_62 : decode prog_1_method_8_code 62 = .ok (.iload 4, 2) := by decide +kernel
theorem dc_LR_action_64 : decode prog_1_method_8_code 64 = .ok (.invokevirtual 161, 3) := by decide +kernel
theorem dc_LR_action_67 : decode prog_1_method_8_code 67 = .ok (.ireturn, 1) := by decide +kernel
theorem dc_LR_forget_0 : decode prog_1_method_9_code 0 = .ok (.aload_n 0, 1) := by decide +kernel
theorem dc_LR_forget_1 : decode prog_1_method_9_code 1 = .ok (.getfield 141, 3) := by decide +kernel
theorem dc_LR_forget_4 : decode prog_1_method_9_code 4 = .ok (.istore_n 1, 1) := by decide +kernel
theorem dc_LR_forget_5 : decode prog_1_method_9_code 5 = .ok (.aload_n 0, 1) := by decide +kernel
theorem dc_LR_forget_6 : decode prog_1_method_9_code 6 = .ok (.iconst 0, 1) := by decide +kernel
theorem dc_LR_forget_7 : decode prog_1_method_9_code 7 = .ok (.putfield 141, 3) := by decide +kernel
theorem dc_LR_forget_10 : decode prog_1_method_9_code 10 = .ok (.iload_n 1, 1) := by decide +kernel
theorem dc_LR_forget_11 : decode prog_1_method_9_code 11 = .ok (.ireturn, 1) := by decide +kernel
theorem dc_LR_line_0 : decode prog_1_method_10_code 0 = .ok (.aload_n 0, 1) := by decide +kernel
theorem dc_LR_line_1 : decode prog_1_method_10_code 1 = .ok (.getfield 44, 3) := by decide +kernel
theorem dc_LR_line_4 : decode prog_1_method_10_code 4 = .ok (.aload_n 0, 1) := by decide +kernel
theorem dc_LR_line_5 : decode prog_1_method_10_code 5 = .ok (.getfield 14, 3) := by decide +kernel
theorem dc_LR_line_8 : decode prog_1_method_10_code 8 = .ok (.aload_n 0, 1) := by decide +kernel
theorem dc_LR_line_9 : decode prog_1_method_10_code 9 = .ok (.getfield 69, 3) := by decide +kernel
theorem dc_LR_line_12 : decode prog_1_method_10_code 12 = .ok (.invokevirtual 165, 3) := by decide +kernel
theorem dc_LR_line_15 : decode prog_1_method_10_code 15 = .ok (.aload_n 0, 1) := by decide +kernel
theorem dc_LR_line_16 : decode prog_1_method_10_code 16 = .ok (.getfield 14, 3) := by decide +kernel
theorem dc_LR_line_19 : decode prog_1_method_10_code 19 = .ok (.invokevirtual 95, 3) := by decide +kernel
theorem dc_LR_line_22 : decode prog_1_method_10_code 22 = .ok (.aload_n 0, 1) := by decide +kernel
theorem dc_LR_line_23 : decode prog_1_method_10_code 23 = .ok (.dup, 1) := by decide +kernel
theorem dc_LR_line_24 : decode prog_1_method_10_code 24 = .ok (.getfield 168, 3) := by decide +kernel
theorem dc_LR_line_27 : decode prog_1_method_10_code 27 = .ok (.iconst 1, 1) := by decide +kernel
theorem dc_LR_line_28 : decode prog_1_method_10_code 28 = .ok (.iadd, 1) := by decide +kernel
theorem dc_LR_line_29 : decode prog_1_method_10_code 29 = .ok (.putfield 168, 3) := by decide +kernel
theorem dc_LR_line_32 : decode prog_1_method_10_code 32 = .ok (.iconst 0, 1) := by decide +kernel
theorem dc_LR_line_33 : decode prog_1_method_10_code 33 = .ok (.istore_n 1, 1) := by decide +kernel
theorem dc_LR_line_34 : decode prog_1_method_10_code 34 = .ok (.iconst 1, 1) := by decide +kernel
theorem dc_LR_line_35 : decode prog_1_method_10_code 35 = .ok (.istore_n 2, 1) := by decide +kernel
theorem dc_LR_line_36 : decode prog_1_method_10_code 36 = .ok (.iconst 0, 1) := by decide +kernel
theorem dc_LR_line_37 : decode prog_1_method_10_code 37 = .ok (.istore_n 3, 1) := by decide +kernel
theorem dc_LR_line_38 : decode prog_1_method_10_code 38 = .ok (.iload_n 3, 1) := by decide +kernel
theorem dc_LR_line_39 : decode prog_1_method_10_code 39 = .ok (.aload_n 0, 1) := by decide +kernel
theorem dc_LR_line_40 : decode prog_1_method_10_code 40 = .ok (.getfield 141, 3) := by decide +kernel
theorem dc_LR_line_43 : decode prog_1_method_10_code 43 = .ok (.if_icmp .ge 40, 3) := by decide +kernel
theorem dc_LR_line_46 : decode prog_1_method_10_code 46 = .ok (.iload_n 2, 1) := by decide +kernel
theorem dc_LR_line_47 : decode prog_1_method_10_code 47 = .ok (.ifCond .eq 36, 3) := by decide +kernel
theorem dc_LR_line_50 : decode prog_1_method_10_code 50 = .ok (.aload_n 0, 1) := by decide +kernel
theorem dc_LR_line_51 : decode prog_1_method_10_code 51 = .ok (.aload_n 0, 1) := by decide +kernel
theorem dc_LR_line_52 : decode prog_1_method_10_code 52 = .ok (.getfield 37, 3) := by decide +kernel
theorem dc_LR_line_55 : decode prog_1_method_10_code 55 = .ok (.iload_n 3, 1) := by decide +kernel
theorem dc_LR_line_56 : decode prog_1_method_10_code 56 = .ok (.aaload, 1) := by decide +kernel
theorem dc_LR_line_57 : decode prog_1_method_10_code 57 = .ok (.invokevirtual 171, 3) := by decide +kernel
theorem dc_LR_line_60 : decode prog_1_method_10_code 60 = .ok (.ifCond .eq 17, 3) := by decide +kernel
theorem dc_LR_line_63 : decode prog_1_method_10_code 63 = .ok (.iinc 1 1, 3) := by decide +kernel
theorem dc_LR_line_66 : decode prog_1_method_10_code 66 = .ok (.aload_n 0, 1) := by decide +kernel
theorem dc_LR_line_67 : decode prog_1_method_10_code 67 = .ok (.aload_n 0, 1) := by decide +kernel
theorem dc_LR_line_68 : decode prog_1_method_10_code 68 = .ok (.getfield 37, 3) := by decide +kernel
theorem dc_LR_line_71 : decode prog_1_method_10_code 71 = .ok (.iload_n 3, 1) := by decide +kernel
theorem dc_LR_line_72 : decode prog_1_method_10_code 72 = .ok (.aaload, 1) := by decide +kernel
theorem dc_LR_line_73 : decode prog_1_method_10_code 73 = .ok (.invokevirtual 175, 3) := by decide +kernel
theorem dc_LR_line_76 : decode prog_1_method_10_code 76 = .ok (.istore_n 2, 1) := by decide +kernel
theorem dc_LR_line_77 : decode prog_1_method_10_code 77 = .ok (.iinc 3 1, 3) := by decide +kernel
theorem dc_LR_line_80 : decode prog_1_method_10_code 80 = .ok (.goto (-42), 3) := by decide +kernel
theorem dc_LR_line_83 : decode prog_1_method_10_code 83 = .ok (.iload_n 1, 1) := by decide +kernel
theorem dc_LR_line_84 : decode prog_1_method_10_code 84 = .ok (.ireturn, 1) := by decide +kernel
theorem dc_LR_find_0 : decode prog_1_method_11_code 0 = .ok (.iload_n 1, 1) := by decide +kernel
theorem dc_LR_find_1 : decode prog_1_method_11_code 1 = .ok (.invokestatic 98, 3) := by decide +kernel
theorem dc_LR_find_4 : decode prog_1_method_11_code 4 = .ok (.ifCond .eq 18, 3) := by decide +kernel
theorem dc_LR_find_7 : decode prog_1_method_11_code 7 = .ok (.iload_n 2, 1) := by decide +kernel
theorem dc_LR_find_8 : decode prog_1_method_11_code 8 = .ok (.ifCond .lt 14, 3) := by decide +kernel
theorem dc_LR_find_11 : decode prog_1_method_11_code 11 = .ok (.iload_n 2, 1) := by decide +kernel
theorem dc_LR_find_12 : decode prog_1_method_11_code 12 = .ok (.aload_n 0, 1) := by decide +kernel
theorem dc_LR_find_13 : decode prog_1_method_11_code 13 = .ok (.getfield 14, 3) := by decide +kernel
theorem dc_LR_find_16 : decode prog_1_method_11_code 16 = .ok (.getfield 82, 3) := by decide +kernel
theorem dc_LR_find_19 : decode prog_1_method_11_code 19 = .ok (.if_icmp .le 13, 3) := by decide +kernel
theorem dc_LR_find_22 : decode prog_1_method_11_code 22 = .ok (.new 102, 3) := by decide +kernel
theorem dc_LR_find_25 : decode prog_1_method_11_code 25 = .ok (.dup, 1) := by decide +kernel
theorem dc_LR_find_26 : decode prog_1_method_11_code 26 = .ok (.ldc 178, 2) := by decide +kernel
theorem dc_LR_find_28 : decode prog_1_method_11_code 28 = .ok (.invokespecial 106, 3) := by decide +kernel
theorem dc_LR_find_31 : decode prog_1_method_11_code 31 = .ok (.athrow, 1) := by decide +kernel
theorem dc_LR_find_32 : decode prog_1_method_11_code 32 = .ok (.aload_n 0, 1) := by decide +kernel
theorem dc_LR_find_33 : decode prog_1_method_11_code 33 = .ok (.getfield 24, 3) := by decide +kernel
theorem dc_LR_find_36 : decode prog_1_method_11_code 36 = .ok (.iload_n 1, 1) := by decide +kernel
theorem dc_LR_find_37 : decode prog_1_method_11_code 37 = .ok (.aaload, 1) := by decide +kernel
theorem dc_LR_find_38 : decode prog_1_method_11_code 38 = .ok (.aload_n 0, 1) := by decide +kernel
theorem dc_LR_find_39 : decode prog_1_method_11_code 39 = .ok (.getfield 14, 3) := by decide +kernel
theorem dc_LR_find_42 : decode prog_1_method_11_code 42 = .ok (.iload_n 2, 1) := by decide +kernel
theorem dc_LR_find_43 : decode prog_1_method_11_code 43 = .ok (.invokevirtual 180, 3) := by decide +kernel
theorem dc_LR_find_46 : decode prog_1_method_11_code 46 = .ok (.istore_n 3, 1) := by decide +kernel
theorem dc_LR_find_47 : decode prog_1_method_11_code 47 = .ok (.aload_n 0, 1) := by decide +kernel
theorem dc_LR_find_48 : decode prog_1_method_11_code 48 = .ok (.iload_n 3, 1) := by decide +kernel
theorem dc_LR_find_49 : decode prog_1_method_11_code 49 = .ok (.iconst (-1), 1) := by decide +kernel
theorem dc_LR_find_50 : decode prog_1_method_11_code 50 = .ok (.if_icmp .ne 7, 3) := by decide +kernel
theorem dc_LR_find_53 : decode prog_1_method_11_code 53 = .ok (.iconst (-1), 1) := by decide +kernel
theorem dc_LR_find_54 : decode prog_1_method_11_code 54 = .ok (.goto 17, 3) := by decide +kernel
theorem dc_LR_find_57 : decode prog_1_method_11_code 57 = .ok (.aload_n 0, 1) := by decide +kernel
theorem dc_LR_find_58 : decode prog_1_method_11_code 58 = .ok (.getfield 24, 3) := by decide +kernel
theorem dc_LR_find_61 : decode prog_1_method_11_code 61 = .ok (.iload_n 1, 1) := by decide +kernel
theorem dc_LR_find_62 : decode prog_1_method_11_code 62 = .ok (.aaload, 1) := by decide +kernel
theorem dc_LR_find_63 : decode prog_1_method_11_code 63 = .ok (.aload_n 0, 1) := by decide +kernel
theorem dc_LR_find_64 : decode prog_1_method_11_code 64 = .ok (.getfield 14, 3) := by decide +kernel
theorem dc_LR_find_67 : decode prog_1_method_11_code 67 = .ok (.iload_n 3, 1) := by decide +kernel
theorem dc_LR_find_68 : decode prog_1_method_11_code 68 = .ok (.invokevirtual 184, 3) := by decide +kernel
theorem dc_LR_find_71 : decode prog_1_method_11_code 71 = .ok (.putfield 73, 3) := by decide +kernel
theorem dc_LR_find_74 : decode prog_1_method_11_code 74 = .ok (.iload_n 3, 1) := by decide +kernel
theorem dc_LR_find_75 : decode prog_1_method_11_code 75 = .ok (.ireturn, 1) := by decide +kernel
theorem dc_LR_end_0 : decode prog_1_method_12_code 0 = .ok (.aload_n 0, 1) := by decide +kernel
theorem dc_LR_end_1 : decode prog_1_method_12_code 1 = .ok (.getfield 73, 3) := by decide +kernel
theorem dc_LR_end_4 : decode prog_1_method_12_code 4 = .ok (.ireturn, 1) := by decide +kernel
theorem dc_LR_sign_0 : decode prog_1_method_13_code 0 = .ok (.iload_n 1, 1) := by decide +kernel
theorem dc_LR_sign_1 : decode prog_1_method_13_code 1 = .ok (.ifCond .lt 14, 3) := by decide +kernel
theorem dc_LR_sign_4 : decode prog_1_method_13_code 4 = .ok (.iload_n 1, 1) := by decide +kernel
theorem dc_LR_sign_5 : decode prog_1_method_13_code 5 = .ok (.aload_n 0, 1) := by decide +kernel
theorem dc_LR_sign_6 : decode prog_1_method_13_code 6 = .ok (.getfield 44, 3) := by decide +kernel
theorem dc_LR_sign_9 : decode prog_1_method_13_code 9 = .ok (.getfield 187, 3) := by decide +kernel
theorem dc_LR_sign_12 : decode prog_1_method_13_code 12 = .ok (.if_icmp .le 13, 3) := by decide +kernel
theorem dc_LR_sign_15 : decode prog_1_method_13_code 15 = .ok (.new 102, 3) := by decide +kernel
theorem dc_LR_sign_18 : decode prog_1_method_13_code 18 = .ok (.dup, 1) := by decide +kernel
theorem dc_LR_sign_19 : decode prog_1_method_13_code 19 = .ok (.ldc 190, 2) := by decide +kernel
theorem dc_LR_sign_21 : decode prog_1_method_13_code 21 = .ok (.invokespecial 106, 3) := by decide +kernel
theorem dc_LR_sign_24 : decode prog_1_method_13_code 24 = .ok (.athrow, 1) := by decide +kernel
theorem dc_LR_sign_25 : decode prog_1_method_13_code 25 = .ok (.iload_n 1, 1) := by decide +kernel
theorem dc_LR_sign_26 : decode prog_1_method_13_code 26 = .ok (.ifCond .ne 13, 3) := by decide +kernel
theorem dc_LR_sign_29 : decode prog_1_method_13_code 29 = .ok (.aload_n 0, 1) := by decide +kernel
theorem dc_LR_sign_30 : decode prog_1_method_13_code 30 = .ok (.getfield 44, 3) := by decide +kernel
theorem dc_LR_sign_33 : decode prog_1_method_13_code 33 = .ok (.getfield 192, 3) := by decide +kernel
theorem dc_LR_sign_36 : decode prog_1_method_13_code 36 = .ok (.goto 11, 3) := by decide +kernel
theorem dc_LR_sign_39 : decode prog_1_method_13_code 39 = .ok (.aload_n 0, 1) := by decide +kernel
theorem dc_LR_sign_40 : decode prog_1_method_13_code 40 = .ok (.getfield 44, 3) := by decide +kernel
theorem dc_LR_sign_43 : decode prog_1_method_13_code 43 = .ok (.iload_n 1, 1) := by decide +kernel
theorem dc_LR_sign_44 : decode prog_1_method_13_code 44 = .ok (.invokevirtual 195, 3) := by decide +kernel
theorem dc_LR_sign_47 : decode prog_1_method_13_code 47 = .ok (.astore_n 3, 1) := by decide +kernel
theorem dc_LR_sign_48 : decode prog_1_method_13_code 48 = .ok (.iload_n 2, 1) := by decide +kernel
theorem dc_LR_sign_49 : decode prog_1_method_13_code 49 = .ok (.iconst (-1), 1) := by decide +kernel
theorem dc_LR_sign_50 : decode prog_1_method_13_code 50 = .ok (.if_icmp .ne 8, 3) := by decide +kernel
theorem dc_LR_sign_53 : decode prog_1_method_13_code 53 = .ok (.aload_n 3, 1) := by decide +kernel
theorem dc_LR_sign_54 : decode prog_1_method_13_code 54 = .ok (.getfield 82, 3) := by decide +kernel
theorem dc_LR_sign_57 : decode prog_1_method_13_code 57 = .ok (.ireturn, 1) := by decide +kernel
theorem dc_LR_sign_58 : decode prog_1_method_13_code 58 = .ok (.aload_n 3, 1) := by decide +kernel
theorem dc_LR_sign_59 : decode prog_1_method_13_code 59 = .ok (.iload_n 2, 1) := by decide +kernel
theorem dc_LR_sign_60 : decode prog_1_method_13_code 60 = .ok (.invokevirtual 199, 3) := by decide +kernel
theorem dc_LR_sign_63 : decode prog_1_method_13_code 63 = .ok (.ifCond .ne 13, 3) := by decide +kernel
theorem dc_LR_sign_66 : decode prog_1_method_13_code 66 = .ok (.new 102, 3) := by decide +kernel
theorem dc_LR_sign_69 : decode prog_1_method_13_code 69 = .ok (.dup, 1) := by decide +kernel
theorem dc_LR_sign_70 : decode prog_1_method_13_code 70 = .ok (.ldc 202, 2) := by decide +kernel
theorem dc_LR_sign_72 : decode prog_1_method_13_code 72 = .ok (.invokespecial 106, 3) := by decide +kernel
theorem dc_LR_sign_75 : decode prog_1_method_13_code 75 = .ok (.athrow, 1) := by decide +kernel
theorem dc_LR_sign_76 : decode prog_1_method_13_code 76 = .ok (.aload_n 3, 1) := by decide +kernel
theorem dc_LR_sign_77 : decode prog_1_method_13_code 77 = .ok (.getfield 204, 3) := by decide +kernel
theorem dc_LR_sign_80 : decode prog_1_method_13_code 80 = .ok (.iload_n 2, 1) := by decide +kernel
theorem dc_LR_sign_81 : decode prog_1_method_13_code 81 = .ok (.iaload, 1) := by decide +kernel
theorem dc_LR_sign_82 : decode prog_1_method_13_code 82 = .ok (.ireturn, 1) := by decide +kernel
theorem dc_LR_printed_0 : decode prog_1_method_14_code 0 = .ok (.aload_n 0, 1) := by decide +kernel
theorem dc_LR_printed_1 : decode prog_1_method_14_code 1 = .ok (.getfield 62, 3) := by decide +kernel
theorem dc_LR_printed_4 : decode prog_1_method_14_code 4 = .ok (.iload_n 1, 1) := by decide +kernel
theorem dc_LR_printed_5 : decode prog_1_method_14_code 5 = .ok (.invokevirtual 207, 3) := by decide +kernel
theorem dc_LR_printed_8 : decode prog_1_method_14_code 8 = .ok (.ifCond .ne 13, 3) := by decide +kernel
theorem dc_LR_printed_11 : decode prog_1_method_14_code 11 = .ok (.new 102, 3) := by decide +kernel
theorem dc_LR_printed_14 : decode prog_1_method_14_code 14 = .ok (.dup, 1) := by decide +kernel
theorem dc_LR_printed_15 : decode prog_1_method_14_code 15 = .ok (.ldc 208, 2) := by decide +kernel
theorem dc_LR_printed_17 : decode prog_1_method_14_code 17 = .ok (.invokespecial 106, 3) := by decide +kernel
theorem dc_LR_printed_20 : decode prog_1_method_14_code 20 = .ok (.athrow, 1) := by decide +kernel
theorem dc_LR_printed_21 : decode prog_1_method_14_code 21 = .ok (.aload_n 0, 1) := by decide +kernel
theorem dc_LR_printed_22 : decode prog_1_method_14_code 22 = .ok (.getfield 62, 3) := by decide +kernel
theorem dc_LR_printed_25 : decode prog_1_method_14_code 25 = .ok (.iload_n 1, 1) := by decide +kernel
theorem dc_LR_printed_26 : decode prog_1_method_14_code 26 = .ok (.invokevirtual 210, 3) := by decide +kernel
theorem dc_LR_printed_29 : decode prog_1_method_14_code 29 = .ok (.ireturn, 1) := by decide +kernel
theorem dc_LR_counter_0 : decode prog_1_method_15_code 0 = .ok (.iload_n 1, 1) := by decide +kernel
theorem dc_LR_counter_1 : decode prog_1_method_15_code 1 = .ok (.invokestatic 213, 3) := by decide +kernel
theorem dc_LR_counter_4 : decode prog_1_method_15_code 4 = .ok (.ifCond .ne 13, 3) := by decide +kernel
theorem dc_LR_counter_7 : decode prog_1_method_15_code 7 = .ok (.new 102, 3) := by decide +kernel
theorem dc_LR_counter_10 : decode prog_1_method_15_code 10 = .ok (.dup, 1) := by decide +kernel
theorem dc_LR_counter_11 : decode prog_1_method_15_code 11 = .ok (.ldc 216, 2) := by decide +kernel
theorem dc_LR_counter_13 : decode prog_1_method_15_code 13 = .ok (.invokespecial 106, 3) := by decide +kernel
theorem dc_LR_counter_16 : decode prog_1_method_15_code 16 = .ok (.athrow, 1) := by decide +kernel
theorem dc_LR_counter_17 : decode prog_1_method_15_code 17 = .ok (.aload_n 0, 1) := by decide +kernel
theorem dc_LR_counter_18 : decode prog_1_method_15_code 18 = .ok (.getfield 48, 3) := by decide +kernel
theorem dc_LR_counter_21 : decode prog_1_method_15_code 21 = .ok (.iload_n 1, 1) := by decide +kernel
theorem dc_LR_counter_22 : decode prog_1_method_15_code 22 = .ok (.iaload, 1) := by decide +kernel
theorem dc_LR_counter_23 : decode prog_1_method_15_code 23 = .ok (.ireturn, 1) := by decide +kernel
theorem dc_LR_key_0 : decode prog_1_method_16_code 0 = .ok (.iload_n 1, 1) := by decide +kernel
theorem dc_LR_key_1 : decode prog_1_method_16_code 1 = .ok (.ifCond .lt 14, 3) := by decide +kernel
theorem dc_LR_key_4 : decode prog_1_method_16_code 4 = .ok (.iload_n 1, 1) := by decide +kernel
theorem dc_LR_key_5 : decode prog_1_method_16_code 5 = .ok (.aload_n 0, 1) := by decide +kernel
theorem dc_LR_key_6 : decode prog_1_method_16_code 6 = .ok (.getfield 55, 3) := by decide +kernel
theorem dc_LR_key_9 : decode prog_1_method_16_code 9 = .ok (.getfield 218, 3) := by decide +kernel
theorem dc_LR_key_12 : decode prog_1_method_16_code 12 = .ok (.if_icmp .lt 13, 3) := by decide +kernel
theorem dc_LR_key_15 : decode prog_1_method_16_code 15 = .ok (.new 102, 3) := by decide +kernel
theorem dc_LR_key_18 : decode prog_1_method_16_code 18 = .ok (.dup, 1) := by decide +kernel
theorem dc_LR_key_19 : decode prog_1_method_16_code 19 = .ok (.ldc 221, 2) := by decide +kernel
theorem dc_LR_key_21 : decode prog_1_method_16_code 21 = .ok (.invokespecial 106, 3) := by decide +kernel
theorem dc_LR_key_24 : decode prog_1_method_16_code 24 = .ok (.athrow, 1) := by decide +kernel
theorem dc_LR_key_25 : decode prog_1_method_16_code 25 = .ok (.iload_n 2, 1) := by decide +kernel
theorem dc_LR_key_26 : decode prog_1_method_16_code 26 = .ok (.bipush (-2), 2) := by decide +kernel
theorem dc_LR_key_28 : decode prog_1_method_16_code 28 = .ok (.if_icmp .ne 13, 3) := by decide +kernel
theorem dc_LR_key_31 : decode prog_1_method_16_code 31 = .ok (.aload_n 0, 1) := by decide +kernel
theorem dc_LR_key_32 : decode prog_1_method_16_code 32 = .ok (.getfield 55, 3) := by decide +kernel
theorem dc_LR_key_35 : decode prog_1_method_16_code 35 = .ok (.getfield 223, 3) := by decide +kernel
theorem dc_LR_key_38 : decode prog_1_method_16_code 38 = .ok (.iload_n 1, 1) := by decide +kernel
theorem dc_LR_key_39 : decode prog_1_method_16_code 39 = .ok (.iaload, 1) := by decide +kernel
theorem dc_LR_key_40 : decode prog_1_method_16_code 40 = .ok (.ireturn, 1) := by decide +kernel
theorem dc_LR_key_41 : decode prog_1_method_16_code 41 = .ok (.aload_n 0, 1) := by decide +kernel
theorem dc_LR_key_42 : decode prog_1_method_16_code 42 = .ok (.getfield 55, 3) := by decide +kernel
theorem dc_LR_key_45 : decode prog_1_method_16_code 45 = .ok (.getfield 226, 3) := by decide +kernel
theorem dc_LR_key_48 : decode prog_1_method_16_code 48 = .ok (.iload_n 1, 1) := by decide +kernel
theorem dc_LR_key_49 : decode prog_1_method_16_code 49 = .ok (.aaload, 1) := by decide +kernel
theorem dc_LR_key_50 : decode prog_1_method_16_code 50 = .ok (.astore_n 3, 1) := by decide +kernel
theorem dc_LR_key_51 : decode prog_1_method_16_code 51 = .ok (.iload_n 2, 1) := by decide +kernel
theorem dc_LR_key_52 : decode prog_1_method_16_code 52 = .ok (.iconst (-1), 1) := by decide +kernel
theorem dc_LR_key_53 : decode prog_1_method_16_code 53 = .ok (.if_icmp .ne 8, 3) := by decide +kernel
theorem dc_LR_key_56 : decode prog_1_method_16_code 56 = .ok (.aload_n 3, 1) := by decide +kernel
theorem dc_LR_key_57 : decode prog_1_method_16_code 57 = .ok (.getfield 82, 3) := by decide +kernel
theorem dc_LR_key_60 : decode prog_1_method_16_code 60 = .ok (.ireturn, 1) := by decide +kernel
theorem dc_LR_key_61 : decode prog_1_method_16_code 61 = .ok (.aload_n 3, 1) := by decide +kernel
theorem dc_LR_key_62 : decode prog_1_method_16_code 62 = .ok (.iload_n 2, 1) := by decide +kernel
theorem dc_LR_key_63 : decode prog_1_method_16_code 63 = .ok (.invokevirtual 199, 3) := by decide +kernel
theorem dc_LR_key_66 : decode prog_1_method_16_code 66 = .ok (.ifCond .ne 13, 3) := by decide +kernel
theorem dc_LR_key_69 : decode prog_1_method_16_code 69 = .ok (.new 102, 3) := by decide +kernel
theorem dc_LR_key_72 : decode prog_1_method_16_code 72 = .ok (.dup, 1) := by decide +kernel
theorem dc_LR_key_73 : decode prog_1_method_16_code 73 = .ok (.ldc 202, 2) := by decide +kernel
theorem dc_LR_key_75 : decode prog_1_method_16_code 75 = .ok (.invokespecial 106, 3) := by decide +kernel
theorem dc_LR_key_78 : decode prog_1_method_16_code 78 = .ok (.athrow, 1) := by decide +kernel
theorem dc_LR_key_79 : decode prog_1_method_16_code 79 = .ok (.aload_n 3, 1) := by decide +kernel
theorem dc_LR_key_80 : decode prog_1_method_16_code 80 = .ok (.getfield 204, 3) := by decide +kernel
theorem dc_LR_key_83 : decode prog_1_method_16_code 83 = .ok (.iload_n 2, 1) := by decide +kernel
theorem dc_LR_key_84 : decode prog_1_method_16_code 84 = .ok (.iaload, 1) := by decide +kernel
theorem dc_LR_key_85 : decode prog_1_method_16_code 85 = .ok (.ireturn, 1) := by decide +kernel
theorem dc_LR_count_0 : decode prog_1_method_17_code 0 = .ok (.iload_n 1, 1) := by decide +kernel
theorem dc_LR_count_1 : decode prog_1_method_17_code 1 = .ok (.tableswitch 81 0 5 #[39, 47, 52, 57, 65, 73], 39) := by decide +kernel
theorem dc_LR_count_40 : decode prog_1_method_17_code 40 = .ok (.aload_n 0, 1) := by decide +kernel
theorem dc_LR_count_41 : decode prog_1_method_17_code 41 = .ok (.getfield 14, 3) := by decide +kernel
theorem dc_LR_count_44 : decode prog_1_method_17_code 44 = .ok (.getfield 82, 3) := by decide +kernel
theorem dc_LR_count_47 : decode prog_1_method_17_code 47 = .ok (.ireturn, 1) := by decide +kernel
theorem dc_LR_count_48 : decode prog_1_method_17_code 48 = .ok (.aload_n 0, 1) := by decide +kernel
theorem dc_LR_count_49 : decode prog_1_method_17_code 49 = .ok (.getfield 141, 3) := by decide +kernel
theorem dc_LR_count_52 : decode prog_1_method_17_code 52 = .ok (.ireturn, 1) := by decide +kernel
theorem dc_LR_count_53 : decode prog_1_method_17_code 53 = .ok (.aload_n 0, 1) := by decide +kernel
theorem dc_LR_count_54 : decode prog_1_method_17_code 54 = .ok (.getfield 168, 3) := by decide +kernel
theorem dc_LR_count_57 : decode prog_1_method_17_code 57 = .ok (.ireturn, 1) := by decide +kernel
theorem dc_LR_count_58 : decode prog_1_method_17_code 58 = .ok (.aload_n 0, 1) := by decide +kernel
theorem dc_LR_count_59 : decode prog_1_method_17_code 59 = .ok (.getfield 44, 3) := by decide +kernel
theorem dc_LR_count_62 : decode prog_1_method_17_code 62 = .ok (.getfield 187, 3) := by decide +kernel
theorem dc_LR_count_65 : decode prog_1_method_17_code 65 = .ok (.ireturn, 1) := by decide +kernel
theorem dc_LR_count_66 : decode prog_1_method_17_code 66 = .ok (.aload_n 0, 1) := by decide +kernel
theorem dc_LR_count_67 : decode prog_1_method_17_code 67 = .ok (.getfield 62, 3) := by decide +kernel
theorem dc_LR_count_70 : decode prog_1_method_17_code 70 = .ok (.getfield 229, 3) := by decide +kernel
theorem dc_LR_count_73 : decode prog_1_method_17_code 73 = .ok (.ireturn, 1) := by decide +kernel
theorem dc_LR_count_74 : decode prog_1_method_17_code 74 = .ok (.aload_n 0, 1) := by decide +kernel
theorem dc_LR_count_75 : decode prog_1_method_17_code 75 = .ok (.getfield 55, 3) := by decide +kernel
theorem dc_LR_count_78 : decode prog_1_method_17_code 78 = .ok (.getfield 218, 3) := by decide +kernel
theorem dc_LR_count_81 : decode prog_1_method_17_code 81 = .ok (.ireturn, 1) := by decide +kernel
theorem dc_LR_count_82 : decode prog_1_method_17_code 82 = .ok (.new 130, 3) := by decide +kernel
theorem dc_LR_count_85 : decode prog_1_method_17_code 85 = .ok (.dup, 1) := by decide +kernel
theorem dc_LR_count_86 : decode prog_1_method_17_code 86 = .ok (.ldc 232, 2) := by decide +kernel
theorem dc_LR_count_88 : decode prog_1_method_17_code 88 = .ok (.invokespecial 134, 3) := by decide +kernel
theorem dc_LR_count_91 : decode prog_1_method_17_code 91 = .ok (.athrow, 1) := by decide +kernel
theorem dc_LR_signsIn_0 : decode prog_1_method_18_code 0 = .ok (.iconst 0, 1) := by decide +kernel
theorem dc_LR_signsIn_1 : decode prog_1_method_18_code 1 = .ok (.istore_n 1, 1) := by decide +kernel
theorem dc_LR_signsIn_2 : decode prog_1_method_18_code 2 = .ok (.iconst 0, 1) := by decide +kernel
theorem dc_LR_signsIn_3 : decode prog_1_method_18_code 3 = .ok (.istore_n 2, 1) := by decide +kernel
theorem dc_LR_signsIn_4 : decode prog_1_method_18_code 4 = .ok (.iload_n 2, 1) := by decide +kernel
theorem dc_LR_signsIn_5 : decode prog_1_method_18_code 5 = .ok (.bipush 32, 2) := by decide +kernel
theorem dc_LR_signsIn_7 : decode prog_1_method_18_code 7 = .ok (.if_icmp .ge 22, 3) := by decide +kernel
theorem dc_LR_signsIn_10 : decode prog_1_method_18_code 10 = .ok (.iload_n 0, 1) := by decide +kernel
theorem dc_LR_signsIn_11 : decode prog_1_method_18_code 11 = .ok (.iload_n 2, 1) := by decide +kernel
theorem dc_LR_signsIn_12 : decode prog_1_method_18_code 12 = .ok (.iushr, 1) := by decide +kernel
theorem dc_LR_signsIn_13 : decode prog_1_method_18_code 13 = .ok (.sipush 255, 3) := by decide +kernel
theorem dc_LR_signsIn_16 : decode prog_1_method_18_code 16 = .ok (.iand, 1) := by decide +kernel
theorem dc_LR_signsIn_17 : decode prog_1_method_18_code 17 = .ok (.ifCond .eq 6, 3) := by decide +kernel
theorem dc_LR_signsIn_20 : decode prog_1_method_18_code 20 = .ok (.iinc 1 1, 3) := by decide +kernel
theorem dc_LR_signsIn_23 : decode prog_1_method_18_code 23 = .ok (.iinc 2 8, 3) := by decide +kernel
theorem dc_LR_signsIn_26 : decode prog_1_method_18_code 26 = .ok (.goto (-22), 3) := by decide +kernel
theorem dc_LR_signsIn_29 : decode prog_1_method_18_code 29 = .ok (.iload_n 1, 1) := by decide +kernel
theorem dc_LR_signsIn_30 : decode prog_1_method_18_code 30 = .ok (.ireturn, 1) := by decide +kernel
theorem dc_LR_addToPad_0 : decode prog_1_method_19_code 0 = .ok (.iconst 0, 1) := by decide +kernel
theorem dc_LR_addToPad_1 : decode prog_1_method_19_code 1 = .ok (.istore_n 2, 1) := by decide +kernel
theorem dc_LR_addToPad_2 : decode prog_1_method_19_code 2 = .ok (.iload_n 2, 1) := by decide +kernel
theorem dc_LR_addToPad_3 : decode prog_1_method_19_code 3 = .ok (.bipush 32, 2) := by decide +kernel
theorem dc_LR_addToPad_5 : decode prog_1_method_19_code 5 = .ok (.if_icmp .ge 29, 3) := by decide +kernel
theorem dc_LR_addToPad_8 : decode prog_1_method_19_code 8 = .ok (.iload_n 1, 1) := by decide +kernel
theorem dc_LR_addToPad_9 : decode prog_1_method_19_code 9 = .ok (.iload_n 2, 1) := by decide +kernel
theorem dc_LR_addToPad_10 : decode prog_1_method_19_code 10 = .ok (.iushr, 1) := by decide +kernel
theorem dc_LR_addToPad_11 : decode prog_1_method_19_code 11 = .ok (.sipush 255, 3) := by decide +kernel
theorem dc_LR_addToPad_14 : decode prog_1_method_19_code 14 = .ok (.iand, 1) := by decide +kernel
theorem dc_LR_addToPad_15 : decode prog_1_method_19_code 15 = .ok (.istore_n 3, 1) := by decide +kernel
theorem dc_LR_addToPad_16 : decode prog_1_method_19_code 16 = .ok (.iload_n 3, 1) := by decide +kernel
theorem dc_LR_addToPad_17 : decode prog_1_method_19_code 17 = .ok (.ifCond .eq 11, 3) := by decide +kernel
theorem dc_LR_addToPad_20 : decode prog_1_method_19_code 20 = .ok (.aload_n 0, 1) := by decide +kernel
theorem dc_LR_addToPad_21 : decode prog_1_method_19_code 21 = .ok (.getfield 14, 3) := by decide +kernel
theorem dc_LR_addToPad_24 : decode prog_1_method_19_code 24 = .ok (.iload_n 3, 1) := by decide +kernel
theorem dc_LR_addToPad_25 : decode prog_1_method_19_code 25 = .ok (.invokevirtual 234, 3) := by decide +kernel
theorem dc_LR_addToPad_28 : decode prog_1_method_19_code 28 = .ok (.iinc 2 8, 3) := by decide +kernel
theorem dc_LR_addToPad_31 : decode prog_1_method_19_code 31 = .ok (.goto (-29), 3) := by decide +kernel
theorem dc_LR_addToPad_34 : decode prog_1_method_19_code 34 = .ok (.return_, 1) := by decide +kernel
theorem dc_LR_isExpression_0 : decode prog_1_method_20_code 0 = .ok (.iload_n 0, 1) := by decide +kernel
theorem dc_LR_isExpression_1 : decode prog_1_method_20_code 1 = .ok (.ifCond .lt 13, 3) := by decide +kernel
theorem dc_LR_isExpression_4 : decode prog_1_method_20_code 4 = .ok (.iload_n 0, 1) := by decide +kernel
theorem dc_LR_isExpression_5 : decode prog_1_method_20_code 5 = .ok (.bipush 6, 2) := by decide +kernel
theorem dc_LR_isExpression_7 : decode prog_1_method_20_code 7 = .ok (.if_icmp .ge 7, 3) := by decide +kernel
theorem dc_LR_isExpression_10 : decode prog_1_method_20_code 10 = .ok (.iconst 1, 1) := by decide +kernel
theorem dc_LR_isExpression_11 : decode prog_1_method_20_code 11 = .ok (.goto 4, 3) := by decide +kernel
theorem dc_LR_isExpression_14 : decode prog_1_method_20_code 14 = .ok (.iconst 0, 1) := by decide +kernel
theorem dc_LR_isExpression_15 : decode prog_1_method_20_code 15 = .ok (.ireturn, 1) := by decide +kernel
theorem dc_LR_isText_0 : decode prog_1_method_21_code 0 = .ok (.iload_n 0, 1) := by decide +kernel
theorem dc_LR_isText_1 : decode prog_1_method_21_code 1 = .ok (.ifCond .lt 13, 3) := by decide +kernel
theorem dc_LR_isText_4 : decode prog_1_method_21_code 4 = .ok (.iload_n 0, 1) := by decide +kernel
theorem dc_LR_isText_5 : decode prog_1_method_21_code 5 = .ok (.bipush 6, 2) := by decide +kernel
theorem dc_LR_isText_7 : decode prog_1_method_21_code 7 = .ok (.if_icmp .ge 7, 3) := by decide +kernel
theorem dc_LR_isText_10 : decode prog_1_method_21_code 10 = .ok (.iconst 1, 1) := by decide +kernel
theorem dc_LR_isText_11 : decode prog_1_method_21_code 11 = .ok (.goto 4, 3) := by decide +kernel
theorem dc_LR_isText_14 : decode prog_1_method_21_code 14 = .ok (.iconst 0, 1) := by decide +kernel
theorem dc_LR_isText_15 : decode prog_1_method_21_code 15 = .ok (.ireturn, 1) := by decide +kernel
theorem dc_LR_isCounter_0 : decode prog_1_method_22_code 0 = .ok (.iload_n 0, 1) := by decide +kernel
theorem dc_LR_isCounter_1 : decode prog_1_method_22_code 1 = .ok (.ifCond .lt 13, 3) := by decide +kernel
theorem dc_LR_isCounter_4 : decode prog_1_method_22_code 4 = .ok (.iload_n 0, 1) := by decide +kernel
theorem dc_LR_isCounter_5 : decode prog_1_method_22_code 5 = .ok (.bipush 8, 2) := by decide +kernel
theorem dc_LR_isCounter_7 : decode prog_1_method_22_code 7 = .ok (.if_icmp .ge 7, 3) := by decide +kernel
theorem dc_LR_isCounter_10 : decode prog_1_method_22_code 10 = .ok (.iconst 1, 1) := by decide +kernel
theorem dc_LR_isCounter_11 : decode prog_1_method_22_code 11 = .ok (.goto 4, 3) := by decide +kernel
theorem dc_LR_isCounter_14 : decode prog_1_method_22_code 14 = .ok (.iconst 0, 1) := by decide +kernel
theorem dc_LR_isCounter_15 : decode prog_1_method_22_code 15 = .ok (.ireturn, 1) := by decide +kernel
theorem dc_LR_isField_0 : decode prog_1_method_23_code 0 = .ok (.iload_n 0, 1) := by decide +kernel
theorem dc_LR_isField_1 : decode prog_1_method_23_code 1 = .ok (.iconst 1, 1) := by decide +kernel
theorem dc_LR_isField_2 : decode prog_1_method_23_code 2 = .ok (.if_icmp .lt 13, 3) := by decide +kernel
theorem dc_LR_isField_5 : decode prog_1_method_23_code 5 = .ok (.iload_n 0, 1) := by decide +kernel
theorem dc_LR_isField_6 : decode prog_1_method_23_code 6 = .ok (.bipush 30, 2) := by decide +kernel
theorem dc_LR_isField_8 : decode prog_1_method_23_code 8 = .ok (.if_icmp .gt 7, 3) := by decide +kernel
theorem dc_LR_isField_11 : decode prog_1_method_23_code 11 = .ok (.iconst 1, 1) := by decide +kernel
theorem dc_LR_isField_12 : decode prog_1_method_23_code 12 = .ok (.goto 4, 3) := by decide +kernel
theorem dc_LR_isField_15 : decode prog_1_method_23_code 15 = .ok (.iconst 0, 1) := by decide +kernel
theorem dc_LR_isField_16 : decode prog_1_method_23_code 16 = .ok (.ireturn, 1) := by decide +kernel
theorem dc_LR_isPattern_0 : decode prog_1_method_24_code 0 = .ok (.iload_n 0, 1) := by decide +kernel
theorem dc_LR_isPattern_1 : decode prog_1_method_24_code 1 = .ok (.tableswitch 75 0 6 #[43, 45, 50, 70, 70, 43, 43], 43) := by decide +kernel
theorem dc_LR_isPattern_44 : decode prog_1_method_24_code 44 = .ok (.iconst 1, 1) := by decide +kernel
theorem dc_LR_isPattern_45 : decode prog_1_method_24_code 45 = .ok (.ireturn, 1) := by decide +kernel
theorem dc_LR_isPattern_46 : decode prog_1_method_24_code 46 = .ok (.iload_n 1, 1) := by decide +kernel
theorem dc_LR_isPattern_47 : decode prog_1_method_24_code 47 = .ok (.invokestatic 98, 3) := by decide +kernel
theorem dc_LR_isPattern_50 : decode prog_1_method_24_code 50 = .ok (.ireturn, 1) := by decide +kernel
theorem dc_LR_isPattern_51 : decode prog_1_method_24_code 51 = .ok (.iload_n 1, 1) := by decide +kernel
theorem dc_LR_isPattern_52 : decode prog_1_method_24_code 52 = .ok (.invokestatic 98, 3) := by decide +kernel
theorem dc_LR_isPattern_55 : decode prog_1_method_24_code 55 = .ok (.ifCond .eq 14, 3) := by decide +kernel
theorem dc_LR_isPattern_58 : decode prog_1_method_24_code 58 = .ok (.iload_n 2, 1) := by decide +kernel
theorem dc_LR_isPattern_59 : decode prog_1_method_24_code 59 = .ok (.invokestatic 236, 3) := by decide +kernel
theorem dc_LR_isPattern_62 : decode prog_1_method_24_code 62 = .ok (.ifCond .eq 7, 3) := by decide +kernel
theorem dc_LR_isPattern_65 : decode prog_1_method_24_code 65 = .ok (.iconst 1, 1) := by decide +kernel
theorem dc_LR_isPattern_66 : decode prog_1_method_24_code 66 = .ok (.goto 4, 3) := by decide +kernel
theorem dc_LR_isPattern_69 : decode prog_1_method_24_code 69 = .ok (.iconst 0, 1) := by decide +kernel
theorem dc_LR_isPattern_70 : decode prog_1_method_24_code 70 = .ok (.ireturn, 1) := by decide +kernel
theorem dc_LR_isPattern_71 : decode prog_1_method_24_code 71 = .ok (.iload_n 1, 1) := by decide +kernel
theorem dc_LR_isPattern_72 : decode prog_1_method_24_code 72 = .ok (.invokestatic 236, 3) := by decide +kernel
theorem dc_LR_isPattern_75 : decode prog_1_method_24_code 75 = .ok (.ireturn, 1) := by decide +kernel
theorem dc_LR_isPattern_76 : decode prog_1_method_24_code 76 = .ok (.iconst 0, 1) := by decide +kernel
theorem dc_LR_isPattern_77 : decode prog_1_method_24_code 77 = .ok (.ireturn, 1) := by decide +kernel
theorem dc_LR_isAction_0 : decode prog_1_method_25_code 0 = .ok (.iload_n 0, 1) := by decide +kernel
theorem dc_LR_isAction_1 : decode prog_1_method_25_code 1 = .ok (.tableswitch 144 0 12 #[67, 69, 74, 69, 94, 74, 114, 114, 134, 139, 67, 139, 139], 67) := by decide +kernel
theorem dc_LR_isAction_68 : decode prog_1_method_25_code 68 = .ok (.iconst 1, 1) := by decide +kernel
theorem dc_LR_isAction_69 : decode prog_1_method_25_code 69 = .ok (.ireturn, 1) := by decide +kernel
theorem dc_LR_isAction_70 : decode prog_1_method_25_code 70 = .ok (.iload_n 1, 1) := by decide +kernel
theorem dc_LR_isAction_71 : decode prog_1_method_25_code 71 = .ok (.invokestatic 236, 3) := by decide +kernel
theorem dc_LR_isAction_74 : decode prog_1_method_25_code 74 = .ok (.ireturn, 1) := by decide +kernel
theorem dc_LR_isAction_75 : decode prog_1_method_25_code 75 = .ok (.iload_n 1, 1) := by decide +kernel
theorem dc_LR_isAction_76 : decode prog_1_method_25_code 76 = .ok (.invokestatic 236, 3) := by decide +kernel
theorem dc_LR_isAction_79 : decode prog_1_method_25_code 79 = .ok (.ifCond .eq 14, 3) := by decide +kernel
theorem dc_LR_isAction_82 : decode prog_1_method_25_code 82 = .ok (.iload_n 2, 1) := by decide +kernel
theorem dc_LR_isAction_83 : decode prog_1_method_25_code 83 = .ok (.invokestatic 213, 3) := by decide +kernel
theorem dc_LR_isAction_86 : decode prog_1_method_25_code 86 = .ok (.ifCond .eq 7, 3) := by decide +kernel
theorem dc_LR_isAction_89 : decode prog_1_method_25_code 89 = .ok (.iconst 1, 1) := by decide +kernel
theorem dc_LR_isAction_90 : decode prog_1_method_25_code 90 = .ok (.goto 4, 3) := by decide +kernel
theorem dc_LR_isAction_93 : decode prog_1_method_25_code 93 = .ok (.iconst 0, 1) := by decide +kernel
theorem dc_LR_isAction_94 : decode prog_1_method_25_code 94 = .ok (.ireturn, 1) := by decide +kernel
theorem dc_LR_isAction_95 : decode prog_1_method_25_code 95 = .ok (.iload_n 1, 1) := by decide +kernel
theorem dc_LR_isAction_96 : decode prog_1_method_25_code 96 = .ok (.invokestatic 236, 3) := by decide +kernel
theorem dc_LR_isAction_99 : decode prog_1_method_25_code 99 = .ok (.ifCond .eq 14, 3) := by decide +kernel
theorem dc_LR_isAction_102 : decode prog_1_method_25_code 102 = .ok (.iload_n 2, 1) := by decide +kernel
theorem dc_LR_isAction_103 : decode prog_1_method_25_code 103 = .ok (.invokestatic 236, 3) := by decide +kernel
theorem dc_LR_isAction_106 : decode prog_1_method_25_code 106 = .ok (.ifCond .eq 7, 3) := by decide +kernel
theorem dc_LR_isAction_109 : decode prog_1_method_25_code 109 = .ok (.iconst 1, 1) := by decide +kernel
theorem dc_LR_isAction_110 : decode prog_1_method_25_code 110 = .ok (.goto 4, 3) := by decide +kernel
theorem dc_LR_isAction_113 : decode prog_1_method_25_code 113 = .ok (.iconst 0, 1) := by decide +kernel
theorem dc_LR_isAction_114 : decode prog_1_method_25_code 114 = .ok (.ireturn, 1) := by decide +kernel
theorem dc_LR_isAction_115 : decode prog_1_method_25_code 115 = .ok (.iload_n 1, 1) := by decide +kernel
theorem dc_LR_isAction_116 : decode prog_1_method_25_code 116 = .ok (.invokestatic 98, 3) := by decide +kernel
theorem dc_LR_isAction_119 : decode prog_1_method_25_code 119 = .ok (.ifCond .eq 14, 3) := by decide +kernel
theorem dc_LR_isAction_122 : decode prog_1_method_25_code 122 = .ok (.iload_n 2, 1) := by decide +kernel
theorem dc_LR_isAction_123 : decode prog_1_method_25_code 123 = .ok (.invokestatic 117, 3) := by decide +kernel
theorem dc_LR_isAction_126 : decode prog_1_method_25_code 126 = .ok (.ifCond .eq 7, 3) := by decide +kernel
theorem dc_LR_isAction_129 : decode prog_1_method_25_code 129 = .ok (.iconst 1, 1) := by decide +kernel
theorem dc_LR_isAction_130 : decode prog_1_method_25_code 130 = .ok (.goto 4, 3) := by decide +kernel
theorem dc_LR_isAction_133 : decode prog_1_method_25_code 133 = .ok (.iconst 0, 1) := by decide +kernel
theorem dc_LR_isAction_134 : decode prog_1_method_25_code 134 = .ok (.ireturn, 1) := by decide +kernel
theorem dc_LR_isAction_135 : decode prog_1_method_25_code 135 = .ok (.iload_n 1, 1) := by decide +kernel
theorem dc_LR_isAction_136 : decode prog_1_method_25_code 136 = .ok (.invokestatic 98, 3) := by decide +kernel
theorem dc_LR_isAction_139 : decode prog_1_method_25_code 139 = .ok (.ireturn, 1) := by decide +kernel
theorem dc_LR_isAction_140 : decode prog_1_method_25_code 140 = .ok (.iload_n 1, 1) := by decide +kernel
theorem dc_LR_isAction_141 : decode prog_1_method_25_code 141 = .ok (.invokestatic 213, 3) := by decide +kernel
theorem dc_LR_isAction_144 : decode prog_1_method_25_code 144 = .ok (.ireturn, 1) := by decide +kernel
theorem dc_LR_isAction_145 : decode prog_1_method_25_code 145 = .ok (.iconst 0, 1) := by decide +kernel
theorem dc_LR_isAction_146 : decode prog_1_method_25_code 146 = .ok (.ireturn, 1) := by decide +kernel
theorem dc_LR_hasPattern_0 : decode prog_1_method_26_code 0 = .ok (.aload_n 1, 1) := by decide +kernel
theorem dc_LR_hasPattern_1 : decode prog_1_method_26_code 1 = .ok (.getfield 239, 3) := by decide +kernel
theorem dc_LR_hasPattern_4 : decode prog_1_method_26_code 4 = .ok (.istore_n 2, 1) := by decide +kernel
theorem dc_LR_hasPattern_5 : decode prog_1_method_26_code 5 = .ok (.aload_n 1, 1) := by decide +kernel
theorem dc_LR_hasPattern_6 : decode prog_1_method_26_code 6 = .ok (.getfield 242, 3) := by decide +kernel
theorem dc_LR_hasPattern_9 : decode prog_1_method_26_code 9 = .ok (.istore_n 3, 1) := by decide +kernel
theorem dc_LR_hasPattern_10 : decode prog_1_method_26_code 10 = .ok (.aload_n 1, 1) := by decide +kernel
theorem dc_LR_hasPattern_11 : decode prog_1_method_26_code 11 = .ok (.getfield 245, 3) := by decide +kernel
theorem dc_LR_hasPattern_14 : decode prog_1_method_26_code 14 = .ok (.tableswitch 174 1 6 #[38, 65, 93, 114, 135, 157], 38) := by decide +kernel
theorem dc_LR_hasPattern_52 : decode prog_1_method_26_code 52 = .ok (.aload_n 0, 1) := by decide +kernel
theorem dc_LR_hasPattern_53 : decode prog_1_method_26_code 53 = .ok (.getfield 24, 3) := by decide +kernel
theorem dc_LR_hasPattern_56 : decode prog_1_method_26_code 56 = .ok (.iload_n 2, 1) := by decide +kernel
theorem dc_LR_hasPattern_57 : decode prog_1_method_26_code 57 = .ok (.aaload, 1) := by decide +kernel
theorem dc_LR_hasPattern_58 : decode prog_1_method_26_code 58 = .ok (.aload_n 0, 1) := by decide +kernel
theorem dc_LR_hasPattern_59 : decode prog_1_method_26_code 59 = .ok (.getfield 44, 3) := by decide +kernel
theorem dc_LR_hasPattern_62 : decode prog_1_method_26_code 62 = .ok (.getfield 192, 3) := by decide +kernel
theorem dc_LR_hasPattern_65 : decode prog_1_method_26_code 65 = .ok (.iconst 0, 1) := by decide +kernel
theorem dc_LR_hasPattern_66 : decode prog_1_method_26_code 66 = .ok (.invokevirtual 180, 3) := by decide +kernel
theorem dc_LR_hasPattern_69 : decode prog_1_method_26_code 69 = .ok (.iconst (-1), 1) := by decide +kernel
theorem dc_LR_hasPattern_70 : decode prog_1_method_26_code 70 = .ok (.if_icmp .eq 7, 3) := by decide +kernel
theorem dc_LR_hasPattern_73 : decode prog_1_method_26_code 73 = .ok (.iconst 1, 1) := by decide +kernel
theorem dc_LR_hasPattern_74 : decode prog_1_method_26_code 74 = .ok (.goto 4, 3) := by decide +kernel
theorem dc_LR_hasPattern_77 : decode prog_1_method_26_code 77 = .ok (.iconst 0, 1) := by decide +kernel
theorem dc_LR_hasPattern_78 : decode prog_1_method_26_code 78 = .ok (.ireturn, 1) := by decide +kernel
theorem dc_LR_hasPattern_79 : decode prog_1_method_26_code 79 = .ok (.aload_n 0, 1) := by decide +kernel
theorem dc_LR_hasPattern_80 : decode prog_1_method_26_code 80 = .ok (.getfield 24, 3) := by decide +kernel
theorem dc_LR_hasPattern_83 : decode prog_1_method_26_code 83 = .ok (.iload_n 2, 1) := by decide +kernel
theorem dc_LR_hasPattern_84 : decode prog_1_method_26_code 84 = .ok (.aaload, 1) := by decide +kernel
theorem dc_LR_hasPattern_85 : decode prog_1_method_26_code 85 = .ok (.aload_n 0, 1) := by decide +kernel
theorem dc_LR_hasPattern_86 : decode prog_1_method_26_code 86 = .ok (.getfield 44, 3) := by decide +kernel
theorem dc_LR_hasPattern_89 : decode prog_1_method_26_code 89 = .ok (.iload_n 3, 1) := by decide +kernel
theorem dc_LR_hasPattern_90 : decode prog_1_method_26_code 90 = .ok (.invokevirtual 195, 3) := by decide +kernel
theorem dc_LR_hasPattern_93 : decode prog_1_method_26_code 93 = .ok (.iconst 0, 1) := by decide +kernel
theorem dc_LR_hasPattern_94 : decode prog_1_method_26_code 94 = .ok (.invokevirtual 180, 3) := by decide +kernel
theorem dc_LR_hasPattern_97 : decode prog_1_method_26_code 97 = .ok (.iconst (-1), 1) := by decide +kernel
theorem dc_LR_hasPattern_98 : decode prog_1_method_26_code 98 = .ok (.if_icmp .eq 7, 3) := by decide +kernel
theorem dc_LR_hasPattern_101 : decode prog_1_method_26_code 101 = .ok (.iconst 1, 1) := by decide +kernel
theorem dc_LR_hasPattern_102 : decode prog_1_method_26_code 102 = .ok (.goto 4, 3) := by decide +kernel
theorem dc_LR_hasPattern_105 : decode prog_1_method_26_code 105 = .ok (.iconst 0, 1) := by decide +kernel
theorem dc_LR_hasPattern_106 : decode prog_1_method_26_code 106 = .ok (.ireturn, 1) := by decide +kernel
theorem dc_LR_hasPattern_107 : decode prog_1_method_26_code 107 = .ok (.aload_n 0, 1) := by decide +kernel
theorem dc_LR_hasPattern_108 : decode prog_1_method_26_code 108 = .ok (.getfield 44, 3) := by decide +kernel
theorem dc_LR_hasPattern_111 : decode prog_1_method_26_code 111 = .ok (.iload_n 2, 1) := by decide +kernel
theorem dc_LR_hasPattern_112 : decode prog_1_method_26_code 112 = .ok (.invokevirtual 195, 3) := by decide +kernel
theorem dc_LR_hasPattern_115 : decode prog_1_method_26_code 115 = .ok (.invokevirtual 248, 3) := by decide +kernel
theorem dc_LR_hasPattern_118 : decode prog_1_method_26_code 118 = .ok (.iload_n 3, 1) := by decide +kernel
theorem dc_LR_hasPattern_119 : decode prog_1_method_26_code 119 = .ok (.if_icmp .ge 7, 3) := by decide +kernel
theorem dc_LR_hasPattern_122 : decode prog_1_method_26_code 122 = .ok (.iconst 1, 1) := by decide +kernel
theorem dc_LR_hasPattern_123 : decode prog_1_method_26_code 123 = .ok (.goto 4, 3) := by decide +kernel
theorem dc_LR_hasPattern_126 : decode prog_1_method_26_code 126 = .ok (.iconst 0, 1) := by decide +kernel
theorem dc_LR_hasPattern_127 : decode prog_1_method_26_code 127 = .ok (.ireturn, 1) := by decide +kernel
theorem dc_LR_hasPattern_128 : decode prog_1_method_26_code 128 = .ok (.aload_n 0, 1) := by decide +kernel
theorem dc_LR_hasPattern_129 : decode prog_1_method_26_code 129 = .ok (.getfield 44, 3) := by decide +kernel
theorem dc_LR_hasPattern_132 : decode prog_1_method_26_code 132 = .ok (.iload_n 2, 1) := by decide +kernel
theorem dc_LR_hasPattern_133 : decode prog_1_method_26_code 133 = .ok (.invokevirtual 195, 3) := by decide +kernel
theorem dc_LR_hasPattern_136 : decode prog_1_method_26_code 136 = .ok (.invokevirtual 248, 3) := by decide +kernel
theorem dc_LR_hasPattern_139 : decode prog_1_method_26_code 139 = .ok (.iload_n 3, 1) := by decide +kernel
theorem dc_LR_hasPattern_140 : decode prog_1_method_26_code 140 = .ok (.if_icmp .ne 7, 3) := by decide +kernel
theorem dc_LR_hasPattern_143 : decode prog_1_method_26_code 143 = .ok (.iconst 1, 1) := by decide +kernel
theorem dc_LR_hasPattern_144 : decode prog_1_method_26_code 144 = .ok (.goto 4, 3) := by decide +kernel
theorem dc_LR_hasPattern_147 : decode prog_1_method_26_code 147 = .ok (.iconst 0, 1) := by decide +kernel
theorem dc_LR_hasPattern_148 : decode prog_1_method_26_code 148 = .ok (.ireturn, 1) := by decide +kernel
theorem dc_LR_hasPattern_149 : decode prog_1_method_26_code 149 = .ok (.aload_n 0, 1) := by decide +kernel
theorem dc_LR_hasPattern_150 : decode prog_1_method_26_code 150 = .ok (.getfield 168, 3) := by decide +kernel
theorem dc_LR_hasPattern_153 : decode prog_1_method_26_code 153 = .ok (.iload_n 2, 1) := by decide +kernel
theorem dc_LR_hasPattern_154 : decode prog_1_method_26_code 154 = .ok (.if_icmp .lt 15, 3) := by decide +kernel
theorem dc_LR_hasPattern_157 : decode prog_1_method_26_code 157 = .ok (.aload_n 0, 1) := by decide +kernel
theorem dc_LR_hasPattern_158 : decode prog_1_method_26_code 158 = .ok (.getfield 168, 3) := by decide +kernel
theorem dc_LR_hasPattern_161 : decode prog_1_method_26_code 161 = .ok (.iload_n 3, 1) := by decide +kernel
theorem dc_LR_hasPattern_162 : decode prog_1_method_26_code 162 = .ok (.if_icmp .gt 7, 3) := by decide +kernel
theorem dc_LR_hasPattern_165 : decode prog_1_method_26_code 165 = .ok (.iconst 1, 1) := by decide +kernel
theorem dc_LR_hasPattern_166 : decode prog_1_method_26_code 166 = .ok (.goto 4, 3) := by decide +kernel
theorem dc_LR_hasPattern_169 : decode prog_1_method_26_code 169 = .ok (.iconst 0, 1) := by decide +kernel
theorem dc_LR_hasPattern_170 : decode prog_1_method_26_code 170 = .ok (.ireturn, 1) := by decide +kernel
theorem dc_LR_hasPattern_171 : decode prog_1_method_26_code 171 = .ok (.aload_n 0, 1) := by decide +kernel
theorem dc_LR_hasPattern_172 : decode prog_1_method_26_code 172 = .ok (.getfield 44, 3) := by decide +kernel
theorem dc_LR_hasPattern_175 : decode prog_1_method_26_code 175 = .ok (.getfield 187, 3) := by decide +kernel
theorem dc_LR_hasPattern_178 : decode prog_1_method_26_code 178 = .ok (.iload_n 2, 1) := by decide +kernel
theorem dc_LR_hasPattern_179 : decode prog_1_method_26_code 179 = .ok (.if_icmp .le 7, 3) := by decide +kernel
theorem dc_LR_hasPattern_182 : decode prog_1_method_26_code 182 = .ok (.iconst 1, 1) := by decide +kernel
theorem dc_LR_hasPattern_183 : decode prog_1_method_26_code 183 = .ok (.goto 4, 3) := by decide +kernel
theorem dc_LR_hasPattern_186 : decode prog_1_method_26_code 186 = .ok (.iconst 0, 1) := by decide +kernel
theorem dc_LR_hasPattern_187 : decode prog_1_method_26_code 187 = .ok (.ireturn, 1) := by decide +kernel
theorem dc_LR_hasPattern_188 : decode prog_1_method_26_code 188 = .ok (.iconst 1, 1) := by decide +kernel
theorem dc_LR_hasPattern_189 : decode prog_1_method_26_code 189 = .ok (.ireturn, 1) := by decide +kernel
theorem dc_LR_doActions_0 : decode prog_1_method_27_code 0 = .ok (.iconst 1, 1) := by decide +kernel
theorem dc_LR_doActions_1 : decode prog_1_method_27_code 1 = .ok (.istore_n 2, 1) := by decide +kernel
theorem dc_LR_doActions_2 : decode prog_1_method_27_code 2 = .ok (.iconst 0, 1) := by decide +kernel
theorem dc_LR_doActions_3 : decode prog_1_method_27_code 3 = .ok (.istore_n 3, 1) := by decide +kernel
theorem dc_LR_doActions_4 : decode prog_1_method_27_code 4 = .ok (.iload_n 3, 1) := by decide +kernel
theorem dc_LR_doActions_5 : decode prog_1_method_27_code 5 = .ok (.aload_n 1, 1) := by decide +kernel
theorem dc_LR_doActions_6 : decode prog_1_method_27_code 6 = .ok (.getfield 251, 3) := by decide +kernel
theorem dc_LR_doActions_9 : decode prog_1_method_27_code 9 = .ok (.if_icmp .ge 47, 3) := by decide +kernel
theorem dc_LR_doActions_12 : decode prog_1_method_27_code 12 = .ok (.aload_n 1, 1) := by decide +kernel
theorem dc_LR_doActions_13 : decode prog_1_method_27_code 13 = .ok (.getfield 254, 3) := by decide +kernel
theorem dc_LR_doActions_16 : decode prog_1_method_27_code 16 = .ok (.iload_n 3, 1) := by decide +kernel
theorem dc_LR_doActions_17 : decode prog_1_method_27_code 17 = .ok (.iaload, 1) := by decide +kernel
theorem dc_LR_doActions_18 : decode prog_1_method_27_code 18 = .ok (.bipush 10, 2) := by decide +kernel
theorem dc_LR_doActions_20 : decode prog_1_method_27_code 20 = .ok (.if_icmp .ne 8, 3) := by decide +kernel
theorem dc_LR_doActions_23 : decode prog_1_method_27_code 23 = .ok (.iconst 0, 1) := by decide +kernel
theorem dc_LR_doActions_24 : decode prog_1_method_27_code 24 = .ok (.istore_n 2, 1) := by decide +kernel
theorem dc_LR_doActions_25 : decode prog_1_method_27_code 25 = .ok (.goto 25, 3) := by decide +kernel
theorem dc_LR_doActions_28 : decode prog_1_method_27_code 28 = .ok (.aload_n 0, 1) := by decide +kernel
theorem dc_LR_doActions_29 : decode prog_1_method_27_code 29 = .ok (.aload_n 1, 1) := by decide +kernel
theorem dc_LR_doActions_30 : decode prog_1_method_27_code 30 = .ok (.getfield 254, 3) := by decide +kernel
theorem dc_LR_doActions_33 : decode prog_1_method_27_code 33 = .ok (.iload_n 3, 1) := by decide +kernel
theorem dc_LR_doActions_34 : decode prog_1_method_27_code 34 = .ok (.iaload, 1) := by decide +kernel
theorem dc_LR_doActions_35 : decode prog_1_method_27_code 35 = .ok (.aload_n 1, 1) := by decide +kernel
theorem dc_LR_doActions_36 : decode prog_1_method_27_code 36 = .ok (.getfield 257, 3) := by decide +kernel
theorem dc_LR_doActions_39 : decode prog_1_method_27_code 39 = .ok (.iload_n 3, 1) := by decide +kernel
theorem dc_LR_doActions_40 : decode prog_1_method_27_code 40 = .ok (.iaload, 1) := by decide +kernel
theorem dc_LR_doActions_41 : decode prog_1_method_27_code 41 = .ok (.aload_n 1, 1) := by decide +kernel
theorem dc_LR_doActions_42 : decode prog_1_method_27_code 42 = .ok (.getfield 260, 3) := by decide +kernel
theorem dc_LR_doActions_45 : decode prog_1_method_27_code 45 = .ok (.iload_n 3, 1) := by decide +kernel
theorem dc_LR_doActions_46 : decode prog_1_method_27_code 46 = .ok (.iaload, 1) := by decide +kernel
theorem dc_LR_doActions_47 : decode prog_1_method_27_code 47 = .ok (.invokevirtual 263, 3) := by decide +kernel
theorem dc_LR_doActions_50 : decode prog_1_method_27_code 50 = .ok (.iinc 3 1, 3) := by decide +kernel
theorem dc_LR_doActions_53 : decode prog_1_method_27_code 53 = .ok (.goto (-49), 3) := by decide +kernel
theorem dc_LR_doActions_56 : decode prog_1_method_27_code 56 = .ok (.iload_n 2, 1) := by decide +kernel
theorem dc_LR_doActions_57 : decode prog_1_method_27_code 57 = .ok (.ireturn, 1) := by decide +kernel
theorem dc_LR_doAction_0 : decode prog_1_method_28_code 0 = .ok (.iload_n 1, 1) := by decide +kernel
theorem dc_LR_doAction_1 : decode prog_1_method_28_code 1 = .ok (.tableswitch 331 0 12 #[67, 84, 102, 125, 144, 167, 199, 233, 268, 281, 331, 308, 318], 67) := by decide +kernel
theorem dc_LR_doAction_68 : decode prog_1_method_28_code 68 = .ok (.aload_n 0, 1) := by decide +kernel
theorem dc_LR_doAction_69 : decode prog_1_method_28_code 69 = .ok (.getfield 62, 3) := by decide +kernel
theorem dc_LR_doAction_72 : decode prog_1_method_28_code 72 = .ok (.aload_n 0, 1) := by decide +kernel
theorem dc_LR_doAction_73 : decode prog_1_method_28_code 73 = .ok (.getfield 44, 3) := by decide +kernel
theorem dc_LR_doAction_76 : decode prog_1_method_28_code 76 = .ok (.getfield 192, 3) := by decide +kernel
theorem dc_LR_doAction_79 : decode prog_1_method_28_code 79 = .ok (.invokevirtual 266, 3) := by decide +kernel
theorem dc_LR_doAction_82 : decode prog_1_method_28_code 82 = .ok (.goto 250, 3) := by decide +kernel
theorem dc_LR_doAction_85 : decode prog_1_method_28_code 85 = .ok (.aload_n 0, 1) := by decide +kernel
theorem dc_LR_doAction_86 : decode prog_1_method_28_code 86 = .ok (.getfield 62, 3) := by decide +kernel
theorem dc_LR_doAction_89 : decode prog_1_method_28_code 89 = .ok (.aload_n 0, 1) := by decide +kernel
theorem dc_LR_doAction_90 : decode prog_1_method_28_code 90 = .ok (.getfield 44, 3) := by decide +kernel
theorem dc_LR_doAction_93 : decode prog_1_method_28_code 93 = .ok (.iload_n 2, 1) := by decide +kernel
theorem dc_LR_doAction_94 : decode prog_1_method_28_code 94 = .ok (.invokevirtual 195, 3) := by decide +kernel
theorem dc_LR_doAction_97 : decode prog_1_method_28_code 97 = .ok (.invokevirtual 266, 3) := by decide +kernel
theorem dc_LR_doAction_100 : decode prog_1_method_28_code 100 = .ok (.goto 232, 3) := by decide +kernel
theorem dc_LR_doAction_103 : decode prog_1_method_28_code 103 = .ok (.aload_n 0, 1) := by decide +kernel
theorem dc_LR_doAction_104 : decode prog_1_method_28_code 104 = .ok (.getfield 48, 3) := by decide +kernel
theorem dc_LR_doAction_107 : decode prog_1_method_28_code 107 = .ok (.iload_n 3, 1) := by decide +kernel
theorem dc_LR_doAction_108 : decode prog_1_method_28_code 108 = .ok (.dup2, 1) := by decide +kernel
theorem dc_LR_doAction_109 : decode prog_1_method_28_code 109 = .ok (.iaload, 1) := by decide +kernel
theorem dc_LR_doAction_110 : decode prog_1_method_28_code 110 = .ok (.aload_n 0, 1) := by decide +kernel
theorem dc_LR_doAction_111 : decode prog_1_method_28_code 111 = .ok (.getfield 44, 3) := by decide +kernel
theorem dc_LR_doAction_114 : decode prog_1_method_28_code 114 = .ok (.iload_n 2, 1) := by decide +kernel
theorem dc_LR_doAction_115 : decode prog_1_method_28_code 115 = .ok (.invokevirtual 195, 3) := by decide +kernel
theorem dc_LR_doAction_118 : decode prog_1_method_28_code 118 = .ok (.invokevirtual 248, 3) := by decide +kernel
theorem dc_LR_doAction_121 : decode prog_1_method_28_code 121 = .ok (.iadd, 1) := by decide +kernel
theorem dc_LR_doAction_122 : decode prog_1_method_28_code 122 = .ok (.iastore, 1) := by decide +kernel
theorem dc_LR_doAction_123 : decode prog_1_method_28_code 123 = .ok (.goto 209, 3) := by decide +kernel
theorem dc_LR_doAction_126 : decode prog_1_method_28_code 126 = .ok (.aload_n 0, 1) := by decide +kernel
theorem dc_LR_doAction_127 : decode prog_1_method_28_code 127 = .ok (.getfield 55, 3) := by decide +kernel
theorem dc_LR_doAction_130 : decode prog_1_method_28_code 130 = .ok (.aload_n 0, 1) := by decide +kernel
theorem dc_LR_doAction_131 : decode prog_1_method_28_code 131 = .ok (.getfield 44, 3) := by decide +kernel
theorem dc_LR_doAction_134 : decode prog_1_method_28_code 134 = .ok (.iload_n 2, 1) := by decide +kernel
theorem dc_LR_doAction_135 : decode prog_1_method_28_code 135 = .ok (.invokevirtual 195, 3) := by decide +kernel
theorem dc_LR_doAction_138 : decode prog_1_method_28_code 138 = .ok (.iload_n 3, 1) := by decide +kernel
theorem dc_LR_doAction_139 : decode prog_1_method_28_code 139 = .ok (.invokevirtual 269, 3) := by decide +kernel
theorem dc_LR_doAction_142 : decode prog_1_method_28_code 142 = .ok (.goto 190, 3) := by decide +kernel
theorem dc_LR_doAction_145 : decode prog_1_method_28_code 145 = .ok (.aload_n 0, 1) := by decide +kernel
theorem dc_LR_doAction_146 : decode prog_1_method_28_code 146 = .ok (.getfield 44, 3) := by decide +kernel
theorem dc_LR_doAction_149 : decode prog_1_method_28_code 149 = .ok (.iload_n 2, 1) := by decide +kernel
theorem dc_LR_doAction_150 : decode prog_1_method_28_code 150 = .ok (.aload_n 0, 1) := by decide +kernel
theorem dc_LR_doAction_151 : decode prog_1_method_28_code 151 = .ok (.getfield 44, 3) := by decide +kernel
theorem dc_LR_doAction_154 : decode prog_1_method_28_code 154 = .ok (.iload_n 3, 1) := by decide +kernel
theorem dc_LR_doAction_155 : decode prog_1_method_28_code 155 = .ok (.invokevirtual 195, 3) := by decide +kernel
theorem dc_LR_doAction_158 : decode prog_1_method_28_code 158 = .ok (.aload_n 0, 1) := by decide +kernel
theorem dc_LR_doAction_159 : decode prog_1_method_28_code 159 = .ok (.getfield 69, 3) := by decide +kernel
theorem dc_LR_doAction_162 : decode prog_1_method_28_code 162 = .ok (.invokevirtual 272, 3) := by decide +kernel
theorem dc_LR_doAction_165 : decode prog_1_method_28_code 165 = .ok (.goto 167, 3) := by decide +kernel
theorem dc_LR_doAction_168 : decode prog_1_method_28_code 168 = .ok (.aload_n 0, 1) := by decide +kernel
theorem dc_LR_doAction_169 : decode prog_1_method_28_code 169 = .ok (.getfield 66, 3) := by decide +kernel
theorem dc_LR_doAction_172 : decode prog_1_method_28_code 172 = .ok (.aload_n 0, 1) := by decide +kernel
theorem dc_LR_doAction_173 : decode prog_1_method_28_code 173 = .ok (.getfield 48, 3) := by decide +kernel
theorem dc_LR_doAction_176 : decode prog_1_method_28_code 176 = .ok (.iload_n 3, 1) := by decide +kernel
theorem dc_LR_doAction_177 : decode prog_1_method_28_code 177 = .ok (.iaload, 1) := by decide +kernel
theorem dc_LR_doAction_178 : decode prog_1_method_28_code 178 = .ok (.invokevirtual 276, 3) := by decide +kernel
theorem dc_LR_doAction_181 : decode prog_1_method_28_code 181 = .ok (.aload_n 0, 1) := by decide +kernel
theorem dc_LR_doAction_182 : decode prog_1_method_28_code 182 = .ok (.getfield 44, 3) := by decide +kernel
theorem dc_LR_doAction_185 : decode prog_1_method_28_code 185 = .ok (.iload_n 2, 1) := by decide +kernel
theorem dc_LR_doAction_186 : decode prog_1_method_28_code 186 = .ok (.aload_n 0, 1) := by decide +kernel
theorem dc_LR_doAction_187 : decode prog_1_method_28_code 187 = .ok (.getfield 66, 3) := by decide +kernel
theorem dc_LR_doAction_190 : decode prog_1_method_28_code 190 = .ok (.aload_n 0, 1) := by decide +kernel
theorem dc_LR_doAction_191 : decode prog_1_method_28_code 191 = .ok (.getfield 69, 3) := by decide +kernel
theorem dc_LR_doAction_194 : decode prog_1_method_28_code 194 = .ok (.invokevirtual 272, 3) := by decide +kernel
theorem dc_LR_doAction_197 : decode prog_1_method_28_code 197 = .ok (.goto 135, 3) := by decide +kernel
theorem dc_LR_doAction_200 : decode prog_1_method_28_code 200 = .ok (.aload_n 0, 1) := by decide +kernel
theorem dc_LR_doAction_201 : decode prog_1_method_28_code 201 = .ok (.getfield 44, 3) := by decide +kernel
theorem dc_LR_doAction_204 : decode prog_1_method_28_code 204 = .ok (.aload_n 0, 1) := by decide +kernel
theorem dc_LR_doAction_205 : decode prog_1_method_28_code 205 = .ok (.getfield 24, 3) := by decide +kernel
theorem dc_LR_doAction_208 : decode prog_1_method_28_code 208 = .ok (.iload_n 2, 1) := by decide +kernel
theorem dc_LR_doAction_209 : decode prog_1_method_28_code 209 = .ok (.aaload, 1) := by decide +kernel
theorem dc_LR_doAction_210 : decode prog_1_method_28_code 210 = .ok (.aload_n 0, 1) := by decide +kernel
theorem dc_LR_doAction_211 : decode prog_1_method_28_code 211 = .ok (.getfield 18, 3) := by decide +kernel
theorem dc_LR_doAction_214 : decode prog_1_method_28_code 214 = .ok (.iload_n 3, 1) := by decide +kernel
theorem dc_LR_doAction_215 : decode prog_1_method_28_code 215 = .ok (.aaload, 1) := by decide +kernel
theorem dc_LR_doAction_216 : decode prog_1_method_28_code 216 = .ok (.iconst 1, 1) := by decide +kernel
theorem dc_LR_doAction_217 : decode prog_1_method_28_code 217 = .ok (.invokevirtual 279, 3) := by decide +kernel
theorem dc_LR_doAction_220 : decode prog_1_method_28_code 220 = .ok (.aload_n 0, 1) := by decide +kernel
theorem dc_LR_doAction_221 : decode prog_1_method_28_code 221 = .ok (.getfield 44, 3) := by decide +kernel
theorem dc_LR_doAction_224 : decode prog_1_method_28_code 224 = .ok (.aload_n 0, 1) := by decide +kernel
theorem dc_LR_doAction_225 : decode prog_1_method_28_code 225 = .ok (.getfield 69, 3) := by decide +kernel
theorem dc_LR_doAction_228 : decode prog_1_method_28_code 228 = .ok (.invokevirtual 283, 3) := by decide +kernel
theorem dc_LR_doAction_231 : decode prog_1_method_28_code 231 = .ok (.goto 101, 3) := by decide +kernel
theorem dc_LR_doAction_234 : decode prog_1_method_28_code 234 = .ok (.aload_n 0, 1) := by decide +kernel
theorem dc_LR_doAction_235 : decode prog_1_method_28_code 235 = .ok (.getfield 44, 3) := by decide +kernel
theorem dc_LR_doAction_238 : decode prog_1_method_28_code 238 = .ok (.aload_n 0, 1) := by decide +kernel
theorem dc_LR_doAction_239 : decode prog_1_method_28_code 239 = .ok (.getfield 24, 3) := by decide +kernel
theorem dc_LR_doAction_242 : decode prog_1_method_28_code 242 = .ok (.iload_n 2, 1) := by decide +kernel
theorem dc_LR_doAction_243 : decode prog_1_method_28_code 243 = .ok (.aaload, 1) := by decide +kernel
theorem dc_LR_doAction_244 : decode prog_1_method_28_code 244 = .ok (.aload_n 0, 1) := by decide +kernel
theorem dc_LR_doAction_245 : decode prog_1_method_28_code 245 = .ok (.getfield 18, 3) := by decide +kernel
theorem dc_LR_doAction_248 : decode prog_1_method_28_code 248 = .ok (.iload_n 3, 1) := by decide +kernel
theorem dc_LR_doAction_249 : decode prog_1_method_28_code 249 = .ok (.aaload, 1) := by decide +kernel
theorem dc_LR_doAction_250 : decode prog_1_method_28_code 250 = .ok (.bipush 121, 2) := by decide +kernel
theorem dc_LR_doAction_252 : decode prog_1_method_28_code 252 = .ok (.invokevirtual 279, 3) := by decide +kernel
theorem dc_LR_doAction_255 : decode prog_1_method_28_code 255 = .ok (.aload_n 0, 1) := by decide +kernel
theorem dc_LR_doAction_256 : decode prog_1_method_28_code 256 = .ok (.getfield 44, 3) := by decide +kernel
theorem dc_LR_doAction_259 : decode prog_1_method_28_code 259 = .ok (.aload_n 0, 1) := by decide +kernel
theorem dc_LR_doAction_260 : decode prog_1_method_28_code 260 = .ok (.getfield 69, 3) := by decide +kernel
theorem dc_LR_doAction_263 : decode prog_1_method_28_code 263 = .ok (.invokevirtual 283, 3) := by decide +kernel
theorem dc_LR_doAction_266 : decode prog_1_method_28_code 266 = .ok (.goto 66, 3) := by decide +kernel
theorem dc_LR_doAction_269 : decode prog_1_method_28_code 269 = .ok (.aload_n 0, 1) := by decide +kernel
theorem dc_LR_doAction_270 : decode prog_1_method_28_code 270 = .ok (.aload_n 0, 1) := by decide +kernel
theorem dc_LR_doAction_271 : decode prog_1_method_28_code 271 = .ok (.getfield 24, 3) := by decide +kernel
theorem dc_LR_doAction_274 : decode prog_1_method_28_code 274 = .ok (.iload_n 2, 1) := by decide +kernel
theorem dc_LR_doAction_275 : decode prog_1_method_28_code 275 = .ok (.aaload, 1) := by decide +kernel
theorem dc_LR_doAction_276 : decode prog_1_method_28_code 276 = .ok (.invokevirtual 286, 3) := by decide +kernel
theorem dc_LR_doAction_279 : decode prog_1_method_28_code 279 = .ok (.goto 53, 3) := by decide +kernel
theorem dc_LR_doAction_282 : decode prog_1_method_28_code 282 = .ok (.aload_n 0, 1) := by decide +kernel
theorem dc_LR_doAction_283 : decode prog_1_method_28_code 283 = .ok (.getfield 66, 3) := by decide +kernel
theorem dc_LR_doAction_286 : decode prog_1_method_28_code 286 = .ok (.aload_n 0, 1) := by decide +kernel
theorem dc_LR_doAction_287 : decode prog_1_method_28_code 287 = .ok (.getfield 48, 3) := by decide +kernel
theorem dc_LR_doAction_290 : decode prog_1_method_28_code 290 = .ok (.iload_n 2, 1) := by decide +kernel
theorem dc_LR_doAction_291 : decode prog_1_method_28_code 291 = .ok (.iaload, 1) := by decide +kernel
theorem dc_LR_doAction_292 : decode prog_1_method_28_code 292 = .ok (.invokevirtual 276, 3) := by decide +kernel
theorem dc_LR_doAction_295 : decode prog_1_method_28_code 295 = .ok (.aload_n 0, 1) := by decide +kernel
theorem dc_LR_doAction_296 : decode prog_1_method_28_code 296 = .ok (.getfield 62, 3) := by decide +kernel
theorem dc_LR_doAction_299 : decode prog_1_method_28_code 299 = .ok (.aload_n 0, 1) := by decide +kernel
theorem dc_LR_doAction_300 : decode prog_1_method_28_code 300 = .ok (.getfield 66, 3) := by decide +kernel
theorem dc_LR_doAction_303 : decode prog_1_method_28_code 303 = .ok (.invokevirtual 266, 3) := by decide +kernel
theorem dc_LR_doAction_306 : decode prog_1_method_28_code 306 = .ok (.goto 26, 3) := by decide +kernel
theorem dc_LR_doAction_309 : decode prog_1_method_28_code 309 = .ok (.aload_n 0, 1) := by decide +kernel
theorem dc_LR_doAction_310 : decode prog_1_method_28_code 310 = .ok (.getfield 48, 3) := by decide +kernel
theorem dc_LR_doAction_313 : decode prog_1_method_28_code 313 = .ok (.iload_n 2, 1) := by decide +kernel
theorem dc_LR_doAction_314 : decode prog_1_method_28_code 314 = .ok (.iload_n 3, 1) := by decide +kernel
theorem dc_LR_doAction_315 : decode prog_1_method_28_code 315 = .ok (.iastore, 1) := by decide +kernel
theorem dc_LR_doAction_316 : decode prog_1_method_28_code 316 = .ok (.goto 16, 3) := by decide +kernel
theorem dc_LR_doAction_319 : decode prog_1_method_28_code 319 = .ok (.aload_n 0, 1) := by decide +kernel
theorem dc_LR_doAction_320 : decode prog_1_method_28_code 320 = .ok (.getfield 48, 3) := by decide +kernel
theorem dc_LR_doAction_323 : decode prog_1_method_28_code 323 = .ok (.iload_n 2, 1) := by decide +kernel
theorem dc_LR_doAction_324 : decode prog_1_method_28_code 324 = .ok (.aload_n 0, 1) := by decide +kernel
theorem dc_LR_doAction_325 : decode prog_1_method_28_code 325 = .ok (.getfield 168, 3) := by decide +kernel
theorem dc_LR_doAction_328 : decode prog_1_method_28_code 328 = .ok (.iastore, 1) := by decide +kernel
theorem dc_LR_doAction_329 : decode prog_1_method_28_code 329 = .ok (.goto 3, 3) := by decide +kernel
theorem dc_LR_doAction_332 : decode prog_1_method_28_code 332 = .ok (.return_, 1) := by decide +kernel
theorem dc_LR_printMatch_0 : decode prog_1_method_29_code 0 = .ok (.aload_n 1, 1) := by decide +kernel
theorem dc_LR_printMatch_1 : decode prog_1_method_29_code 1 = .ok (.aload_n 0, 1) := by decide +kernel
theorem dc_LR_printMatch_2 : decode prog_1_method_29_code 2 = .ok (.getfield 44, 3) := by decide +kernel
theorem dc_LR_printMatch_5 : decode prog_1_method_29_code 5 = .ok (.getfield 192, 3) := by decide +kernel
theorem dc_LR_printMatch_8 : decode prog_1_method_29_code 8 = .ok (.iconst 0, 1) := by decide +kernel
theorem dc_LR_printMatch_9 : decode prog_1_method_29_code 9 = .ok (.invokevirtual 180, 3) := by decide +kernel
theorem dc_LR_printMatch_12 : decode prog_1_method_29_code 12 = .ok (.istore_n 2, 1) := by decide +kernel
theorem dc_LR_printMatch_13 : decode prog_1_method_29_code 13 = .ok (.iload_n 2, 1) := by decide +kernel
theorem dc_LR_printMatch_14 : decode prog_1_method_29_code 14 = .ok (.iconst (-1), 1) := by decide +kernel
theorem dc_LR_printMatch_15 : decode prog_1_method_29_code 15 = .ok (.if_icmp .eq 30, 3) := by decide +kernel
theorem dc_LR_printMatch_18 : decode prog_1_method_29_code 18 = .ok (.aload_n 0, 1) := by decide +kernel
theorem dc_LR_printMatch_19 : decode prog_1_method_29_code 19 = .ok (.getfield 62, 3) := by decide +kernel
theorem dc_LR_printMatch_22 : decode prog_1_method_29_code 22 = .ok (.aload_n 0, 1) := by decide +kernel
theorem dc_LR_printMatch_23 : decode prog_1_method_29_code 23 = .ok (.getfield 44, 3) := by decide +kernel
theorem dc_LR_printMatch_26 : decode prog_1_method_29_code 26 = .ok (.getfield 192, 3) := by decide +kernel
theorem dc_LR_printMatch_29 : decode prog_1_method_29_code 29 = .ok (.iload_n 2, 1) := by decide +kernel
theorem dc_LR_printMatch_30 : decode prog_1_method_29_code 30 = .ok (.aload_n 1, 1) := by decide +kernel
theorem dc_LR_printMatch_31 : decode prog_1_method_29_code 31 = .ok (.aload_n 0, 1) := by decide +kernel
theorem dc_LR_printMatch_32 : decode prog_1_method_29_code 32 = .ok (.getfield 44, 3) := by decide +kernel
theorem dc_LR_printMatch_35 : decode prog_1_method_29_code 35 = .ok (.getfield 192, 3) := by decide +kernel
theorem dc_LR_printMatch_38 : decode prog_1_method_29_code 38 = .ok (.iload_n 2, 1) := by decide +kernel
theorem dc_LR_printMatch_39 : decode prog_1_method_29_code 39 = .ok (.invokevirtual 184, 3) := by decide +kernel
theorem dc_LR_printMatch_42 : decode prog_1_method_29_code 42 = .ok (.invokevirtual 290, 3) := by decide +kernel
theorem dc_LR_printMatch_45 : decode prog_1_method_29_code 45 = .ok (.return_, 1) := by decide +kernel
