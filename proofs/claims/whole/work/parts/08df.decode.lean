theorem dc_Mod_expression_0 : decode prog_10_method_16_code 0 = .ok (.aload_n 0, 1) := by decide +kernel
theorem dc_Mod_expression_1 : decode prog_10_method_16_code 1 = .ok (.iload_n 1, 1) := by decide +kernel
theorem dc_Mod_expression_2 : decode prog_10_method_16_code 2 = .ok (.iconst 0, 1) := by decide +kernel
theorem dc_Mod_expression_3 : decode prog_10_method_16_code 3 = .ok (.iconst 5, 1) := by decide +kernel
theorem dc_Mod_expression_4 : decode prog_10_method_16_code 4 = .ok (.invokestatic 142, 3) := by decide +kernel
theorem dc_Mod_expression_7 : decode prog_10_method_16_code 7 = .ok (.aload_n 0, 1) := by decide +kernel
theorem dc_Mod_expression_8 : decode prog_10_method_16_code 8 = .ok (.getfield 13, 3) := by decide +kernel
theorem dc_Mod_expression_11 : decode prog_10_method_16_code 11 = .ok (.iconst 0, 1) := by decide +kernel
theorem dc_Mod_expression_12 : decode prog_10_method_16_code 12 = .ok (.iaload, 1) := by decide +kernel
theorem dc_Mod_expression_13 : decode prog_10_method_16_code 13 = .ok (.bipush 60, 2) := by decide +kernel
theorem dc_Mod_expression_15 : decode prog_10_method_16_code 15 = .ok (.if_icmp .gt 7, 3) := by decide +kernel
theorem dc_Mod_expression_18 : decode prog_10_method_16_code 18 = .ok (.iconst 1, 1) := by decide +kernel
theorem dc_Mod_expression_19 : decode prog_10_method_16_code 19 = .ok (.goto 4, 3) := by decide +kernel
theorem dc_Mod_expression_22 : decode prog_10_method_16_code 22 = .ok (.iconst 0, 1) := by decide +kernel
theorem dc_Mod_expression_23 : decode prog_10_method_16_code 23 = .ok (.invokevirtual 106, 3) := by decide +kernel
theorem dc_Mod_expression_26 : decode prog_10_method_16_code 26 = .ok (.ifCond .ne 5, 3) := by decide +kernel
theorem dc_Mod_expression_29 : decode prog_10_method_16_code 29 = .ok (.iconst 0, 1) := by decide +kernel
theorem dc_Mod_expression_30 : decode prog_10_method_16_code 30 = .ok (.ireturn, 1) := by decide +kernel
theorem dc_Mod_expression_31 : decode prog_10_method_16_code 31 = .ok (.aload_n 0, 1) := by decide +kernel
theorem dc_Mod_expression_32 : decode prog_10_method_16_code 32 = .ok (.getfield 19, 3) := by decide +kernel
theorem dc_Mod_expression_35 : decode prog_10_method_16_code 35 = .ok (.iload_n 1, 1) := by decide +kernel
theorem dc_Mod_expression_36 : decode prog_10_method_16_code 36 = .ok (.iaload, 1) := by decide +kernel
theorem dc_Mod_expression_37 : decode prog_10_method_16_code 37 = .ok (.istore_n 2, 1) := by decide +kernel
theorem dc_Mod_expression_38 : decode prog_10_method_16_code 38 = .ok (.iconst 0, 1) := by decide +kernel
theorem dc_Mod_expression_39 : decode prog_10_method_16_code 39 = .ok (.istore_n 3, 1) := by decide +kernel
theorem dc_Mod_expression_40 : decode prog_10_method_16_code 40 = .ok (.iload_n 3, 1) := by decide +kernel
theorem dc_Mod_expression_41 : decode prog_10_method_16_code 41 = .ok (.bipush 60, 2) := by decide +kernel
theorem dc_Mod_expression_43 : decode prog_10_method_16_code 43 = .ok (.if_icmp .ge 30, 3) := by decide +kernel
theorem dc_Mod_expression_46 : decode prog_10_method_16_code 46 = .ok (.aload_n 0, 1) := by decide +kernel
theorem dc_Mod_expression_47 : decode prog_10_method_16_code 47 = .ok (.getfield 7, 3) := by decide +kernel
theorem dc_Mod_expression_50 : decode prog_10_method_16_code 50 = .ok (.sipush 960, 3) := by decide +kernel
theorem dc_Mod_expression_53 : decode prog_10_method_16_code 53 = .ok (.iload_n 3, 1) := by decide +kernel
theorem dc_Mod_expression_54 : decode prog_10_method_16_code 54 = .ok (.iadd, 1) := by decide +kernel
theorem dc_Mod_expression_55 : decode prog_10_method_16_code 55 = .ok (.aload_n 0, 1) := by decide +kernel
theorem dc_Mod_expression_56 : decode prog_10_method_16_code 56 = .ok (.getfield 16, 3) := by decide +kernel
theorem dc_Mod_expression_59 : decode prog_10_method_16_code 59 = .ok (.bipush 60, 2) := by decide +kernel
theorem dc_Mod_expression_61 : decode prog_10_method_16_code 61 = .ok (.iload_n 1, 1) := by decide +kernel
theorem dc_Mod_expression_62 : decode prog_10_method_16_code 62 = .ok (.imul, 1) := by decide +kernel
theorem dc_Mod_expression_63 : decode prog_10_method_16_code 63 = .ok (.iload_n 3, 1) := by decide +kernel
theorem dc_Mod_expression_64 : decode prog_10_method_16_code 64 = .ok (.iadd, 1) := by decide +kernel
theorem dc_Mod_expression_65 : decode prog_10_method_16_code 65 = .ok (.iaload, 1) := by decide +kernel
theorem dc_Mod_expression_66 : decode prog_10_method_16_code 66 = .ok (.iastore, 1) := by decide +kernel
theorem dc_Mod_expression_67 : decode prog_10_method_16_code 67 = .ok (.iinc 3 1, 3) := by decide +kernel
theorem dc_Mod_expression_70 : decode prog_10_method_16_code 70 = .ok (.goto (-30), 3) := by decide +kernel
theorem dc_Mod_expression_73 : decode prog_10_method_16_code 73 = .ok (.aload_n 0, 1) := by decide +kernel
theorem dc_Mod_expression_74 : decode prog_10_method_16_code 74 = .ok (.getfield 19, 3) := by decide +kernel
theorem dc_Mod_expression_77 : decode prog_10_method_16_code 77 = .ok (.iload_n 1, 1) := by decide +kernel
theorem dc_Mod_expression_78 : decode prog_10_method_16_code 78 = .ok (.aload_n 0, 1) := by decide +kernel
theorem dc_Mod_expression_79 : decode prog_10_method_16_code 79 = .ok (.getfield 13, 3) := by decide +kernel
theorem dc_Mod_expression_82 : decode prog_10_method_16_code 82 = .ok (.iconst 0, 1) := by decide +kernel
theorem dc_Mod_expression_83 : decode prog_10_method_16_code 83 = .ok (.iaload, 1) := by decide +kernel
theorem dc_Mod_expression_84 : decode prog_10_method_16_code 84 = .ok (.iastore, 1) := by decide +kernel
theorem dc_Mod_expression_85 : decode prog_10_method_16_code 85 = .ok (.iconst 0, 1) := by decide +kernel
theorem dc_Mod_expression_86 : decode prog_10_method_16_code 86 = .ok (.istore_n 3, 1) := by decide +kernel
theorem dc_Mod_expression_87 : decode prog_10_method_16_code 87 = .ok (.iload_n 3, 1) := by decide +kernel
theorem dc_Mod_expression_88 : decode prog_10_method_16_code 88 = .ok (.aload_n 0, 1) := by decide +kernel
theorem dc_Mod_expression_89 : decode prog_10_method_16_code 89 = .ok (.getfield 13, 3) := by decide +kernel
theorem dc_Mod_expression_92 : decode prog_10_method_16_code 92 = .ok (.iconst 0, 1) := by decide +kernel
theorem dc_Mod_expression_93 : decode prog_10_method_16_code 93 = .ok (.iaload, 1) := by decide +kernel
theorem dc_Mod_expression_94 : decode prog_10_method_16_code 94 = .ok (.if_icmp .ge 26, 3) := by decide +kernel
theorem dc_Mod_expression_97 : decode prog_10_method_16_code 97 = .ok (.aload_n 0, 1) := by decide +kernel
theorem dc_Mod_expression_98 : decode prog_10_method_16_code 98 = .ok (.getfield 16, 3) := by decide +kernel
theorem dc_Mod_expression_101 : decode prog_10_method_16_code 101 = .ok (.bipush 60, 2) := by decide +kernel
theorem dc_Mod_expression_103 : decode prog_10_method_16_code 103 = .ok (.iload_n 1, 1) := by decide +kernel
theorem dc_Mod_expression_104 : decode prog_10_method_16_code 104 = .ok (.imul, 1) := by decide +kernel
theorem dc_Mod_expression_105 : decode prog_10_method_16_code 105 = .ok (.iload_n 3, 1) := by decide +kernel
theorem dc_Mod_expression_106 : decode prog_10_method_16_code 106 = .ok (.iadd, 1) := by decide +kernel
theorem dc_Mod_expression_107 : decode prog_10_method_16_code 107 = .ok (.aload_n 0, 1) := by decide +kernel
theorem dc_Mod_expression_108 : decode prog_10_method_16_code 108 = .ok (.getfield 7, 3) := by decide +kernel
theorem dc_Mod_expression_111 : decode prog_10_method_16_code 111 = .ok (.iload_n 3, 1) := by decide +kernel
theorem dc_Mod_expression_112 : decode prog_10_method_16_code 112 = .ok (.iaload, 1) := by decide +kernel
theorem dc_Mod_expression_113 : decode prog_10_method_16_code 113 = .ok (.iastore, 1) := by decide +kernel
theorem dc_Mod_expression_114 : decode prog_10_method_16_code 114 = .ok (.iinc 3 1, 3) := by decide +kernel
theorem dc_Mod_expression_117 : decode prog_10_method_16_code 117 = .ok (.goto (-30), 3) := by decide +kernel
theorem dc_Mod_expression_120 : decode prog_10_method_16_code 120 = .ok (.aload_n 0, 1) := by decide +kernel
theorem dc_Mod_expression_121 : decode prog_10_method_16_code 121 = .ok (.iload_n 1, 1) := by decide +kernel
theorem dc_Mod_expression_122 : decode prog_10_method_16_code 122 = .ok (.invokevirtual 146, 3) := by decide +kernel
theorem dc_Mod_expression_125 : decode prog_10_method_16_code 125 = .ok (.aload_n 0, 1) := by decide +kernel
theorem dc_Mod_expression_126 : decode prog_10_method_16_code 126 = .ok (.getfield 120, 3) := by decide +kernel
theorem dc_Mod_expression_129 : decode prog_10_method_16_code 129 = .ok (.iconst (-1), 1) := by decide +kernel
theorem dc_Mod_expression_130 : decode prog_10_method_16_code 130 = .ok (.if_icmp .eq 52, 3) := by decide +kernel
theorem dc_Mod_expression_133 : decode prog_10_method_16_code 133 = .ok (.aload_n 0, 1) := by decide +kernel
theorem dc_Mod_expression_134 : decode prog_10_method_16_code 134 = .ok (.getfield 19, 3) := by decide +kernel
theorem dc_Mod_expression_137 : decode prog_10_method_16_code 137 = .ok (.iload_n 1, 1) := by decide +kernel
theorem dc_Mod_expression_138 : decode prog_10_method_16_code 138 = .ok (.iload_n 2, 1) := by decide +kernel
theorem dc_Mod_expression_139 : decode prog_10_method_16_code 139 = .ok (.iastore, 1) := by decide +kernel
theorem dc_Mod_expression_140 : decode prog_10_method_16_code 140 = .ok (.iconst 0, 1) := by decide +kernel
theorem dc_Mod_expression_141 : decode prog_10_method_16_code 141 = .ok (.istore_n 3, 1) := by decide +kernel
theorem dc_Mod_expression_142 : decode prog_10_method_16_code 142 = .ok (.iload_n 3, 1) := by decide +kernel
theorem dc_Mod_expression_143 : decode prog_10_method_16_code 143 = .ok (.bipush 60, 2) := by decide +kernel
theorem dc_Mod_expression_145 : decode prog_10_method_16_code 145 = .ok (.if_icmp .ge 30, 3) := by decide +kernel
theorem dc_Mod_expression_148 : decode prog_10_method_16_code 148 = .ok (.aload_n 0, 1) := by decide +kernel
theorem dc_Mod_expression_149 : decode prog_10_method_16_code 149 = .ok (.getfield 16, 3) := by decide +kernel
theorem dc_Mod_expression_152 : decode prog_10_method_16_code 152 = .ok (.bipush 60, 2) := by decide +kernel
theorem dc_Mod_expression_154 : decode prog_10_method_16_code 154 = .ok (.iload_n 1, 1) := by decide +kernel
theorem dc_Mod_expression_155 : decode prog_10_method_16_code 155 = .ok (.imul, 1) := by decide +kernel
theorem dc_Mod_expression_156 : decode prog_10_method_16_code 156 = .ok (.iload_n 3, 1) := by decide +kernel
theorem dc_Mod_expression_157 : decode prog_10_method_16_code 157 = .ok (.iadd, 1) := by decide +kernel
theorem dc_Mod_expression_158 : decode prog_10_method_16_code 158 = .ok (.aload_n 0, 1) := by decide +kernel
theorem dc_Mod_expression_159 : decode prog_10_method_16_code 159 = .ok (.getfield 7, 3) := by decide +kernel
theorem dc_Mod_expression_162 : decode prog_10_method_16_code 162 = .ok (.sipush 960, 3) := by decide +kernel
theorem dc_Mod_expression_165 : decode prog_10_method_16_code 165 = .ok (.iload_n 3, 1) := by decide +kernel
theorem dc_Mod_expression_166 : decode prog_10_method_16_code 166 = .ok (.iadd, 1) := by decide +kernel
theorem dc_Mod_expression_167 : decode prog_10_method_16_code 167 = .ok (.iaload, 1) := by decide +kernel
theorem dc_Mod_expression_168 : decode prog_10_method_16_code 168 = .ok (.iastore, 1) := by decide +kernel
theorem dc_Mod_expression_169 : decode prog_10_method_16_code 169 = .ok (.iinc 3 1, 3) := by decide +kernel
theorem dc_Mod_expression_172 : decode prog_10_method_16_code 172 = .ok (.goto (-30), 3) := by decide +kernel
theorem dc_Mod_expression_175 : decode prog_10_method_16_code 175 = .ok (.aload_n 0, 1) := by decide +kernel
theorem dc_Mod_expression_176 : decode prog_10_method_16_code 176 = .ok (.getfield 120, 3) := by decide +kernel
theorem dc_Mod_expression_179 : decode prog_10_method_16_code 179 = .ok (.iconst 1, 1) := by decide +kernel
theorem dc_Mod_expression_180 : decode prog_10_method_16_code 180 = .ok (.iadd, 1) := by decide +kernel
theorem dc_Mod_expression_181 : decode prog_10_method_16_code 181 = .ok (.ireturn, 1) := by decide +kernel
theorem dc_Mod_expression_182 : decode prog_10_method_16_code 182 = .ok (.aload_n 0, 1) := by decide +kernel
theorem dc_Mod_expression_183 : decode prog_10_method_16_code 183 = .ok (.getfield 13, 3) := by decide +kernel
theorem dc_Mod_expression_186 : decode prog_10_method_16_code 186 = .ok (.iconst 0, 1) := by decide +kernel
theorem dc_Mod_expression_187 : decode prog_10_method_16_code 187 = .ok (.iconst 0, 1) := by decide +kernel
theorem dc_Mod_expression_188 : decode prog_10_method_16_code 188 = .ok (.iastore, 1) := by decide +kernel
theorem dc_Mod_expression_189 : decode prog_10_method_16_code 189 = .ok (.iconst 0, 1) := by decide +kernel
theorem dc_Mod_expression_190 : decode prog_10_method_16_code 190 = .ok (.ireturn, 1) := by decide +kernel
theorem dc_Mod_spread_0 : decode prog_10_method_17_code 0 = .ok (.iconst 1, 1) := by decide +kernel
theorem dc_Mod_spread_1 : decode prog_10_method_17_code 1 = .ok (.istore_n 3, 1) := by decide +kernel
theorem dc_Mod_spread_2 : decode prog_10_method_17_code 2 = .ok (.iload_n 3, 1) := by decide +kernel
theorem dc_Mod_spread_3 : decode prog_10_method_17_code 3 = .ok (.ifCond .eq 124, 3) := by decide +kernel
theorem dc_Mod_spread_6 : decode prog_10_method_17_code 6 = .ok (.iconst 0, 1) := by decide +kernel
theorem dc_Mod_spread_7 : decode prog_10_method_17_code 7 = .ok (.istore_n 3, 1) := by decide +kernel
theorem dc_Mod_spread_8 : decode prog_10_method_17_code 8 = .ok (.iconst 0, 1) := by decide +kernel
theorem dc_Mod_spread_9 : decode prog_10_method_17_code 9 = .ok (.istore 4, 2) := by decide +kernel
theorem dc_Mod_spread_11 : decode prog_10_method_17_code 11 = .ok (.iload 4, 2) := by decide +kernel
theorem dc_Mod_spread_13 : decode prog_10_method_17_code 13 = .ok (.aload_n 0, 1) := by decide +kernel
theorem dc_Mod_spread_14 : decode prog_10_method_17_code 14 = .ok (.getfield 117, 3) := by decide +kernel
theorem dc_Mod_spread_17 : decode prog_10_method_17_code 17 = .ok (.if_icmp .ge 107, 3) := by decide +kernel
theorem dc_Mod_spread_20 : decode prog_10_method_17_code 20 = .ok (.aload_n 0, 1) := by decide +kernel
theorem dc_Mod_spread_21 : decode prog_10_method_17_code 21 = .ok (.getfield 77, 3) := by decide +kernel
theorem dc_Mod_spread_24 : decode prog_10_method_17_code 24 = .ok (.iload 4, 2) := by decide +kernel
theorem dc_Mod_spread_26 : decode prog_10_method_17_code 26 = .ok (.iaload, 1) := by decide +kernel
theorem dc_Mod_spread_27 : decode prog_10_method_17_code 27 = .ok (.ifCond .eq 34, 3) := by decide +kernel
theorem dc_Mod_spread_30 : decode prog_10_method_17_code 30 = .ok (.aload_n 0, 1) := by decide +kernel
theorem dc_Mod_spread_31 : decode prog_10_method_17_code 31 = .ok (.getfield 77, 3) := by decide +kernel
theorem dc_Mod_spread_34 : decode prog_10_method_17_code 34 = .ok (.iload 4, 2) := by decide +kernel
theorem dc_Mod_spread_36 : decode prog_10_method_17_code 36 = .ok (.iaload, 1) := by decide +kernel
theorem dc_Mod_spread_37 : decode prog_10_method_17_code 37 = .ok (.iconst 1, 1) := by decide +kernel
theorem dc_Mod_spread_38 : decode prog_10_method_17_code 38 = .ok (.if_icmp .ne 7, 3) := by decide +kernel
theorem dc_Mod_spread_41 : decode prog_10_method_17_code 41 = .ok (.iload_n 1, 1) := by decide +kernel
theorem dc_Mod_spread_42 : decode prog_10_method_17_code 42 = .ok (.ifCond .eq 19, 3) := by decide +kernel
theorem dc_Mod_spread_45 : decode prog_10_method_17_code 45 = .ok (.aload_n 0, 1) := by decide +kernel
theorem dc_Mod_spread_46 : decode prog_10_method_17_code 46 = .ok (.getfield 77, 3) := by decide +kernel
theorem dc_Mod_spread_49 : decode prog_10_method_17_code 49 = .ok (.iload 4, 2) := by decide +kernel
theorem dc_Mod_spread_51 : decode prog_10_method_17_code 51 = .ok (.iaload, 1) := by decide +kernel
theorem dc_Mod_spread_52 : decode prog_10_method_17_code 52 = .ok (.iconst 2, 1) := by decide +kernel
theorem dc_Mod_spread_53 : decode prog_10_method_17_code 53 = .ok (.if_icmp .ne 12, 3) := by decide +kernel
theorem dc_Mod_spread_56 : decode prog_10_method_17_code 56 = .ok (.iload_n 1, 1) := by decide +kernel
theorem dc_Mod_spread_57 : decode prog_10_method_17_code 57 = .ok (.iload_n 2, 1) := by decide +kernel
theorem dc_Mod_spread_58 : decode prog_10_method_17_code 58 = .ok (.if_icmp .ne 7, 3) := by decide +kernel
theorem dc_Mod_spread_61 : decode prog_10_method_17_code 61 = .ok (.iconst 1, 1) := by decide +kernel
theorem dc_Mod_spread_62 : decode prog_10_method_17_code 62 = .ok (.goto 4, 3) := by decide +kernel
theorem dc_Mod_spread_65 : decode prog_10_method_17_code 65 = .ok (.iconst 0, 1) := by decide +kernel
theorem dc_Mod_spread_66 : decode prog_10_method_17_code 66 = .ok (.istore 5, 2) := by decide +kernel
theorem dc_Mod_spread_68 : decode prog_10_method_17_code 68 = .ok (.iload 5, 2) := by decide +kernel
theorem dc_Mod_spread_70 : decode prog_10_method_17_code 70 = .ok (.ifCond .eq 48, 3) := by decide +kernel
theorem dc_Mod_spread_73 : decode prog_10_method_17_code 73 = .ok (.aload_n 0, 1) := by decide +kernel
theorem dc_Mod_spread_74 : decode prog_10_method_17_code 74 = .ok (.getfield 83, 3) := by decide +kernel
theorem dc_Mod_spread_77 : decode prog_10_method_17_code 77 = .ok (.aload_n 0, 1) := by decide +kernel
theorem dc_Mod_spread_78 : decode prog_10_method_17_code 78 = .ok (.getfield 71, 3) := by decide +kernel
theorem dc_Mod_spread_81 : decode prog_10_method_17_code 81 = .ok (.iload 4, 2) := by decide +kernel
theorem dc_Mod_spread_83 : decode prog_10_method_17_code 83 = .ok (.iaload, 1) := by decide +kernel
theorem dc_Mod_spread_84 : decode prog_10_method_17_code 84 = .ok (.baload, 1) := by decide +kernel
theorem dc_Mod_spread_85 : decode prog_10_method_17_code 85 = .ok (.ifCond .eq 33, 3) := by decide +kernel
theorem dc_Mod_spread_88 : decode prog_10_method_17_code 88 = .ok (.aload_n 0, 1) := by decide +kernel
theorem dc_Mod_spread_89 : decode prog_10_method_17_code 89 = .ok (.getfield 83, 3) := by decide +kernel
theorem dc_Mod_spread_92 : decode prog_10_method_17_code 92 = .ok (.aload_n 0, 1) := by decide +kernel
theorem dc_Mod_spread_93 : decode prog_10_method_17_code 93 = .ok (.getfield 74, 3) := by decide +kernel
theorem dc_Mod_spread_96 : decode prog_10_method_17_code 96 = .ok (.iload 4, 2) := by decide +kernel
theorem dc_Mod_spread_98 : decode prog_10_method_17_code 98 = .ok (.iaload, 1) := by decide +kernel
theorem dc_Mod_spread_99 : decode prog_10_method_17_code 99 = .ok (.baload, 1) := by decide +kernel
theorem dc_Mod_spread_100 : decode prog_10_method_17_code 100 = .ok (.ifCond .ne 18, 3) := by decide +kernel
theorem dc_Mod_spread_103 : decode prog_10_method_17_code 103 = .ok (.aload_n 0, 1) := by decide +kernel
theorem dc_Mod_spread_104 : decode prog_10_method_17_code 104 = .ok (.getfield 83, 3) := by decide +kernel
theorem dc_Mod_spread_107 : decode prog_10_method_17_code 107 = .ok (.aload_n 0, 1) := by decide +kernel
theorem dc_Mod_spread_108 : decode prog_10_method_17_code 108 = .ok (.getfield 74, 3) := by decide +kernel
theorem dc_Mod_spread_111 : decode prog_10_method_17_code 111 = .ok (.iload 4, 2) := by decide +kernel
theorem dc_Mod_spread_113 : decode prog_10_method_17_code 113 = .ok (.iaload, 1) := by decide +kernel
theorem dc_Mod_spread_114 : decode prog_10_method_17_code 114 = .ok (.iconst 1, 1) := by decide +kernel
theorem dc_Mod_spread_115 : decode prog_10_method_17_code 115 = .ok (.bastore, 1) := by decide +kernel
theorem dc_Mod_spread_116 : decode prog_10_method_17_code 116 = .ok (.iconst 1, 1) := by decide +kernel
theorem dc_Mod_spread_117 : decode prog_10_method_17_code 117 = .ok (.istore_n 3, 1) := by decide +kernel
theorem dc_Mod_spread_118 : decode prog_10_method_17_code 118 = .ok (.iinc 4 1, 3) := by decide +kernel
theorem dc_Mod_spread_121 : decode prog_10_method_17_code 121 = .ok (.goto (-110), 3) := by decide +kernel
theorem dc_Mod_spread_124 : decode prog_10_method_17_code 124 = .ok (.goto (-122), 3) := by decide +kernel
theorem dc_Mod_spread_127 : decode prog_10_method_17_code 127 = .ok (.return_, 1) := by decide +kernel
theorem dc_Mod_longest_0 : decode prog_10_method_18_code 0 = .ok (.iconst 0, 1) := by decide +kernel
theorem dc_Mod_longest_1 : decode prog_10_method_18_code 1 = .ok (.istore_n 3, 1) := by decide +kernel
theorem dc_Mod_longest_2 : decode prog_10_method_18_code 2 = .ok (.iload_n 3, 1) := by decide +kernel
theorem dc_Mod_longest_3 : decode prog_10_method_18_code 3 = .ok (.aload_n 0, 1) := by decide +kernel
theorem dc_Mod_longest_4 : decode prog_10_method_18_code 4 = .ok (.getfield 114, 3) := by decide +kernel
theorem dc_Mod_longest_7 : decode prog_10_method_18_code 7 = .ok (.if_icmp .ge 24, 3) := by decide +kernel
theorem dc_Mod_longest_10 : decode prog_10_method_18_code 10 = .ok (.aload_n 0, 1) := by decide +kernel
theorem dc_Mod_longest_11 : decode prog_10_method_18_code 11 = .ok (.getfield 83, 3) := by decide +kernel
theorem dc_Mod_longest_14 : decode prog_10_method_18_code 14 = .ok (.iload_n 3, 1) := by decide +kernel
theorem dc_Mod_longest_15 : decode prog_10_method_18_code 15 = .ok (.iload_n 3, 1) := by decide +kernel
theorem dc_Mod_longest_16 : decode prog_10_method_18_code 16 = .ok (.ifCond .ne 7, 3) := by decide +kernel
theorem dc_Mod_longest_19 : decode prog_10_method_18_code 19 = .ok (.iconst 1, 1) := by decide +kernel
theorem dc_Mod_longest_20 : decode prog_10_method_18_code 20 = .ok (.goto 4, 3) := by decide +kernel
theorem dc_Mod_longest_23 : decode prog_10_method_18_code 23 = .ok (.iconst 0, 1) := by decide +kernel
theorem dc_Mod_longest_24 : decode prog_10_method_18_code 24 = .ok (.bastore, 1) := by decide +kernel
theorem dc_Mod_longest_25 : decode prog_10_method_18_code 25 = .ok (.iinc 3 1, 3) := by decide +kernel
theorem dc_Mod_longest_28 : decode prog_10_method_18_code 28 = .ok (.goto (-26), 3) := by decide +kernel
theorem dc_Mod_longest_31 : decode prog_10_method_18_code 31 = .ok (.iconst (-1), 1) := by decide +kernel
theorem dc_Mod_longest_32 : decode prog_10_method_18_code 32 = .ok (.istore_n 3, 1) := by decide +kernel
theorem dc_Mod_longest_33 : decode prog_10_method_18_code 33 = .ok (.iconst 1, 1) := by decide +kernel
theorem dc_Mod_longest_34 : decode prog_10_method_18_code 34 = .ok (.istore 4, 2) := by decide +kernel
theorem dc_Mod_longest_36 : decode prog_10_method_18_code 36 = .ok (.iload_n 2, 1) := by decide +kernel
theorem dc_Mod_longest_37 : decode prog_10_method_18_code 37 = .ok (.istore 5, 2) := by decide +kernel
theorem dc_Mod_longest_39 : decode prog_10_method_18_code 39 = .ok (.iload 5, 2) := by decide +kernel
theorem dc_Mod_longest_41 : decode prog_10_method_18_code 41 = .ok (.aload_n 0, 1) := by decide +kernel
theorem dc_Mod_longest_42 : decode prog_10_method_18_code 42 = .ok (.getfield 13, 3) := by decide +kernel
theorem dc_Mod_longest_45 : decode prog_10_method_18_code 45 = .ok (.iload_n 1, 1) := by decide +kernel
theorem dc_Mod_longest_46 : decode prog_10_method_18_code 46 = .ok (.iaload, 1) := by decide +kernel
theorem dc_Mod_longest_47 : decode prog_10_method_18_code 47 = .ok (.if_icmp .gt 200, 3) := by decide +kernel
theorem dc_Mod_longest_50 : decode prog_10_method_18_code 50 = .ok (.iload 4, 2) := by decide +kernel
theorem dc_Mod_longest_52 : decode prog_10_method_18_code 52 = .ok (.ifCond .eq 195, 3) := by decide +kernel
theorem dc_Mod_longest_55 : decode prog_10_method_18_code 55 = .ok (.aload_n 0, 1) := by decide +kernel
theorem dc_Mod_longest_56 : decode prog_10_method_18_code 56 = .ok (.iload 5, 2) := by decide +kernel
theorem dc_Mod_longest_58 : decode prog_10_method_18_code 58 = .ok (.aload_n 0, 1) := by decide +kernel
theorem dc_Mod_longest_59 : decode prog_10_method_18_code 59 = .ok (.getfield 13, 3) := by decide +kernel
theorem dc_Mod_longest_62 : decode prog_10_method_18_code 62 = .ok (.iload_n 1, 1) := by decide +kernel
theorem dc_Mod_longest_63 : decode prog_10_method_18_code 63 = .ok (.iaload, 1) := by decide +kernel
theorem dc_Mod_longest_64 : decode prog_10_method_18_code 64 = .ok (.invokevirtual 149, 3) := by decide +kernel
theorem dc_Mod_longest_67 : decode prog_10_method_18_code 67 = .ok (.aload_n 0, 1) := by decide +kernel
theorem dc_Mod_longest_68 : decode prog_10_method_18_code 68 = .ok (.getfield 83, 3) := by decide +kernel
theorem dc_Mod_longest_71 : decode prog_10_method_18_code 71 = .ok (.iconst 1, 1) := by decide +kernel
theorem dc_Mod_longest_72 : decode prog_10_method_18_code 72 = .ok (.baload, 1) := by decide +kernel
theorem dc_Mod_longest_73 : decode prog_10_method_18_code 73 = .ok (.ifCond .eq 8, 3) := by decide +kernel
theorem dc_Mod_longest_76 : decode prog_10_method_18_code 76 = .ok (.iload 5, 2) := by decide +kernel
theorem dc_Mod_longest_78 : decode prog_10_method_18_code 78 = .ok (.goto 4, 3) := by decide +kernel
theorem dc_Mod_longest_81 : decode prog_10_method_18_code 81 = .ok (.iload_n 3, 1) := by decide +kernel
theorem dc_Mod_longest_82 : decode prog_10_method_18_code 82 = .ok (.istore_n 3, 1) := by decide +kernel
theorem dc_Mod_longest_83 : decode prog_10_method_18_code 83 = .ok (.iconst 0, 1) := by decide +kernel
theorem dc_Mod_longest_84 : decode prog_10_method_18_code 84 = .ok (.istore 4, 2) := by decide +kernel
theorem dc_Mod_longest_86 : decode prog_10_method_18_code 86 = .ok (.iconst 0, 1) := by decide +kernel
theorem dc_Mod_longest_87 : decode prog_10_method_18_code 87 = .ok (.istore 6, 2) := by decide +kernel
theorem dc_Mod_longest_89 : decode prog_10_method_18_code 89 = .ok (.iload 6, 2) := by decide +kernel
theorem dc_Mod_longest_91 : decode prog_10_method_18_code 91 = .ok (.aload_n 0, 1) := by decide +kernel
theorem dc_Mod_longest_92 : decode prog_10_method_18_code 92 = .ok (.getfield 114, 3) := by decide +kernel
theorem dc_Mod_longest_95 : decode prog_10_method_18_code 95 = .ok (.if_icmp .ge 17, 3) := by decide +kernel
theorem dc_Mod_longest_98 : decode prog_10_method_18_code 98 = .ok (.aload_n 0, 1) := by decide +kernel
theorem dc_Mod_longest_99 : decode prog_10_method_18_code 99 = .ok (.getfield 87, 3) := by decide +kernel
theorem dc_Mod_longest_102 : decode prog_10_method_18_code 102 = .ok (.iload 6, 2) := by decide +kernel
theorem dc_Mod_longest_104 : decode prog_10_method_18_code 104 = .ok (.iconst 0, 1) := by decide +kernel
theorem dc_Mod_longest_105 : decode prog_10_method_18_code 105 = .ok (.bastore, 1) := by decide +kernel
theorem dc_Mod_longest_106 : decode prog_10_method_18_code 106 = .ok (.iinc 6 1, 3) := by decide +kernel
theorem dc_Mod_longest_109 : decode prog_10_method_18_code 109 = .ok (.goto (-20), 3) := by decide +kernel
theorem dc_Mod_longest_112 : decode prog_10_method_18_code 112 = .ok (.iconst 0, 1) := by decide +kernel
theorem dc_Mod_longest_113 : decode prog_10_method_18_code 113 = .ok (.istore 6, 2) := by decide +kernel
theorem dc_Mod_longest_115 : decode prog_10_method_18_code 115 = .ok (.iload 6, 2) := by decide +kernel
theorem dc_Mod_longest_117 : decode prog_10_method_18_code 117 = .ok (.aload_n 0, 1) := by decide +kernel
theorem dc_Mod_longest_118 : decode prog_10_method_18_code 118 = .ok (.getfield 117, 3) := by decide +kernel
theorem dc_Mod_longest_121 : decode prog_10_method_18_code 121 = .ok (.if_icmp .ge 88, 3) := by decide +kernel
theorem dc_Mod_longest_124 : decode prog_10_method_18_code 124 = .ok (.iload 5, 2) := by decide +kernel
theorem dc_Mod_longest_126 : decode prog_10_method_18_code 126 = .ok (.aload_n 0, 1) := by decide +kernel
theorem dc_Mod_longest_127 : decode prog_10_method_18_code 127 = .ok (.getfield 13, 3) := by decide +kernel
theorem dc_Mod_longest_130 : decode prog_10_method_18_code 130 = .ok (.iload_n 1, 1) := by decide +kernel
theorem dc_Mod_longest_131 : decode prog_10_method_18_code 131 = .ok (.iaload, 1) := by decide +kernel
theorem dc_Mod_longest_132 : decode prog_10_method_18_code 132 = .ok (.if_icmp .ge 77, 3) := by decide +kernel
theorem dc_Mod_longest_135 : decode prog_10_method_18_code 135 = .ok (.aload_n 0, 1) := by decide +kernel
theorem dc_Mod_longest_136 : decode prog_10_method_18_code 136 = .ok (.getfield 77, 3) := by decide +kernel
theorem dc_Mod_longest_139 : decode prog_10_method_18_code 139 = .ok (.iload 6, 2) := by decide +kernel
theorem dc_Mod_longest_141 : decode prog_10_method_18_code 141 = .ok (.iaload, 1) := by decide +kernel
theorem dc_Mod_longest_142 : decode prog_10_method_18_code 142 = .ok (.iconst 3, 1) := by decide +kernel
theorem dc_Mod_longest_143 : decode prog_10_method_18_code 143 = .ok (.if_icmp .ne 60, 3) := by decide +kernel
theorem dc_Mod_longest_146 : decode prog_10_method_18_code 146 = .ok (.aload_n 0, 1) := by decide +kernel
theorem dc_Mod_longest_147 : decode prog_10_method_18_code 147 = .ok (.getfield 83, 3) := by decide +kernel
theorem dc_Mod_longest_150 : decode prog_10_method_18_code 150 = .ok (.aload_n 0, 1) := by decide +kernel
theorem dc_Mod_longest_151 : decode prog_10_method_18_code 151 = .ok (.getfield 71, 3) := by decide +kernel
theorem dc_Mod_longest_154 : decode prog_10_method_18_code 154 = .ok (.iload 6, 2) := by decide +kernel
theorem dc_Mod_longest_156 : decode prog_10_method_18_code 156 = .ok (.iaload, 1) := by decide +kernel
theorem dc_Mod_longest_157 : decode prog_10_method_18_code 157 = .ok (.baload, 1) := by decide +kernel
theorem dc_Mod_longest_158 : decode prog_10_method_18_code 158 = .ok (.ifCond .eq 45, 3) := by decide +kernel
theorem dc_Mod_longest_161 : decode prog_10_method_18_code 161 = .ok (.aload_n 0, 1) := by decide +kernel
theorem dc_Mod_longest_162 : decode prog_10_method_18_code 162 = .ok (.aload_n 0, 1) := by decide +kernel
theorem dc_Mod_longest_163 : decode prog_10_method_18_code 163 = .ok (.getfield 80, 3) := by decide +kernel
theorem dc_Mod_longest_166 : decode prog_10_method_18_code 166 = .ok (.iload 6, 2) := by decide +kernel
theorem dc_Mod_longest_168 : decode prog_10_method_18_code 168 = .ok (.iaload, 1) := by decide +kernel
theorem dc_Mod_longest_169 : decode prog_10_method_18_code 169 = .ok (.aload_n 0, 1) := by decide +kernel
theorem dc_Mod_longest_170 : decode prog_10_method_18_code 170 = .ok (.getfield 7, 3) := by decide +kernel
theorem dc_Mod_longest_173 : decode prog_10_method_18_code 173 = .ok (.bipush 120, 2) := by decide +kernel
theorem dc_Mod_longest_175 : decode prog_10_method_18_code 175 = .ok (.iload_n 1, 1) := by decide +kernel
theorem dc_Mod_longest_176 : decode prog_10_method_18_code 176 = .ok (.imul, 1) := by decide +kernel
theorem dc_Mod_longest_177 : decode prog_10_method_18_code 177 = .ok (.iload 5, 2) := by decide +kernel
theorem dc_Mod_longest_179 : decode prog_10_method_18_code 179 = .ok (.iadd, 1) := by decide +kernel
theorem dc_Mod_longest_180 : decode prog_10_method_18_code 180 = .ok (.iaload, 1) := by decide +kernel
theorem dc_Mod_longest_181 : decode prog_10_method_18_code 181 = .ok (.invokevirtual 153, 3) := by decide +kernel
theorem dc_Mod_longest_184 : decode prog_10_method_18_code 184 = .ok (.ifCond .eq 19, 3) := by decide +kernel
theorem dc_Mod_longest_187 : decode prog_10_method_18_code 187 = .ok (.aload_n 0, 1) := by decide +kernel
theorem dc_Mod_longest_188 : decode prog_10_method_18_code 188 = .ok (.getfield 87, 3) := by decide +kernel
theorem dc_Mod_longest_191 : decode prog_10_method_18_code 191 = .ok (.aload_n 0, 1) := by decide +kernel
theorem dc_Mod_longest_192 : decode prog_10_method_18_code 192 = .ok (.getfield 74, 3) := by decide +kernel
theorem dc_Mod_longest_195 : decode prog_10_method_18_code 195 = .ok (.iload 6, 2) := by decide +kernel
theorem dc_Mod_longest_197 : decode prog_10_method_18_code 197 = .ok (.iaload, 1) := by decide +kernel
theorem dc_Mod_longest_198 : decode prog_10_method_18_code 198 = .ok (.iconst 1, 1) := by decide +kernel
theorem dc_Mod_longest_199 : decode prog_10_method_18_code 199 = .ok (.bastore, 1) := by decide +kernel
theorem dc_Mod_longest_200 : decode prog_10_method_18_code 200 = .ok (.iconst 1, 1) := by decide +kernel
theorem dc_Mod_longest_201 : decode prog_10_method_18_code 201 = .ok (.istore 4, 2) := by decide +kernel
theorem dc_Mod_longest_203 : decode prog_10_method_18_code 203 = .ok (.iinc 6 1, 3) := by decide +kernel
theorem dc_Mod_longest_206 : decode prog_10_method_18_code 206 = .ok (.goto (-91), 3) := by decide +kernel
theorem dc_Mod_longest_209 : decode prog_10_method_18_code 209 = .ok (.iconst 0, 1) := by decide +kernel
theorem dc_Mod_longest_210 : decode prog_10_method_18_code 210 = .ok (.istore 6, 2) := by decide +kernel
theorem dc_Mod_longest_212 : decode prog_10_method_18_code 212 = .ok (.iload 6, 2) := by decide +kernel
theorem dc_Mod_longest_214 : decode prog_10_method_18_code 214 = .ok (.aload_n 0, 1) := by decide +kernel
theorem dc_Mod_longest_215 : decode prog_10_method_18_code 215 = .ok (.getfield 114, 3) := by decide +kernel
theorem dc_Mod_longest_218 : decode prog_10_method_18_code 218 = .ok (.if_icmp .ge 23, 3) := by decide +kernel
theorem dc_Mod_longest_221 : decode prog_10_method_18_code 221 = .ok (.aload_n 0, 1) := by decide +kernel
theorem dc_Mod_longest_222 : decode prog_10_method_18_code 222 = .ok (.getfield 83, 3) := by decide +kernel
theorem dc_Mod_longest_225 : decode prog_10_method_18_code 225 = .ok (.iload 6, 2) := by decide +kernel
theorem dc_Mod_longest_227 : decode prog_10_method_18_code 227 = .ok (.aload_n 0, 1) := by decide +kernel
theorem dc_Mod_longest_228 : decode prog_10_method_18_code 228 = .ok (.getfield 87, 3) := by decide +kernel
theorem dc_Mod_longest_231 : decode prog_10_method_18_code 231 = .ok (.iload 6, 2) := by decide +kernel
theorem dc_Mod_longest_233 : decode prog_10_method_18_code 233 = .ok (.baload, 1) := by decide +kernel
theorem dc_Mod_longest_234 : decode prog_10_method_18_code 234 = .ok (.bastore, 1) := by decide +kernel
theorem dc_Mod_longest_235 : decode prog_10_method_18_code 235 = .ok (.iinc 6 1, 3) := by decide +kernel
theorem dc_Mod_longest_238 : decode prog_10_method_18_code 238 = .ok (.goto (-26), 3) := by decide +kernel
theorem dc_Mod_longest_241 : decode prog_10_method_18_code 241 = .ok (.iinc 5 1, 3) := by decide +kernel
theorem dc_Mod_longest_244 : decode prog_10_method_18_code 244 = .ok (.goto (-205), 3) := by decide +kernel
theorem dc_Mod_longest_247 : decode prog_10_method_18_code 247 = .ok (.iload_n 3, 1) := by decide +kernel
theorem dc_Mod_longest_248 : decode prog_10_method_18_code 248 = .ok (.ireturn, 1) := by decide +kernel
theorem dc_Mod_seek_0 : decode prog_10_method_19_code 0 = .ok (.aload_n 0, 1) := by decide +kernel
theorem dc_Mod_seek_1 : decode prog_10_method_19_code 1 = .ok (.iload_n 1, 1) := by decide +kernel
theorem dc_Mod_seek_2 : decode prog_10_method_19_code 2 = .ok (.invokevirtual 146, 3) := by decide +kernel
theorem dc_Mod_seek_5 : decode prog_10_method_19_code 5 = .ok (.iload_n 3, 1) := by decide +kernel
theorem dc_Mod_seek_6 : decode prog_10_method_19_code 6 = .ok (.istore 4, 2) := by decide +kernel
theorem dc_Mod_seek_8 : decode prog_10_method_19_code 8 = .ok (.iload 4, 2) := by decide +kernel
theorem dc_Mod_seek_10 : decode prog_10_method_19_code 10 = .ok (.aload_n 0, 1) := by decide +kernel
theorem dc_Mod_seek_11 : decode prog_10_method_19_code 11 = .ok (.getfield 13, 3) := by decide +kernel
theorem dc_Mod_seek_14 : decode prog_10_method_19_code 14 = .ok (.iload_n 2, 1) := by decide +kernel
theorem dc_Mod_seek_15 : decode prog_10_method_19_code 15 = .ok (.iaload, 1) := by decide +kernel
theorem dc_Mod_seek_16 : decode prog_10_method_19_code 16 = .ok (.if_icmp .gt 38, 3) := by decide +kernel
theorem dc_Mod_seek_19 : decode prog_10_method_19_code 19 = .ok (.aload_n 0, 1) := by decide +kernel
theorem dc_Mod_seek_20 : decode prog_10_method_19_code 20 = .ok (.iload_n 2, 1) := by decide +kernel
theorem dc_Mod_seek_21 : decode prog_10_method_19_code 21 = .ok (.iload 4, 2) := by decide +kernel
theorem dc_Mod_seek_23 : decode prog_10_method_19_code 23 = .ok (.invokevirtual 157, 3) := by decide +kernel
theorem dc_Mod_seek_26 : decode prog_10_method_19_code 26 = .ok (.istore 5, 2) := by decide +kernel
theorem dc_Mod_seek_28 : decode prog_10_method_19_code 28 = .ok (.iload 5, 2) := by decide +kernel
theorem dc_Mod_seek_30 : decode prog_10_method_19_code 30 = .ok (.iconst (-1), 1) := by decide +kernel
theorem dc_Mod_seek_31 : decode prog_10_method_19_code 31 = .ok (.if_icmp .eq 17, 3) := by decide +kernel
theorem dc_Mod_seek_34 : decode prog_10_method_19_code 34 = .ok (.aload_n 0, 1) := by decide +kernel
theorem dc_Mod_seek_35 : decode prog_10_method_19_code 35 = .ok (.iload 4, 2) := by decide +kernel
theorem dc_Mod_seek_37 : decode prog_10_method_19_code 37 = .ok (.putfield 160, 3) := by decide +kernel
theorem dc_Mod_seek_40 : decode prog_10_method_19_code 40 = .ok (.aload_n 0, 1) := by decide +kernel
theorem dc_Mod_seek_41 : decode prog_10_method_19_code 41 = .ok (.iload 5, 2) := by decide +kernel
theorem dc_Mod_seek_43 : decode prog_10_method_19_code 43 = .ok (.putfield 163, 3) := by decide +kernel
theorem dc_Mod_seek_46 : decode prog_10_method_19_code 46 = .ok (.iconst 1, 1) := by decide +kernel
theorem dc_Mod_seek_47 : decode prog_10_method_19_code 47 = .ok (.ireturn, 1) := by decide +kernel
theorem dc_Mod_seek_48 : decode prog_10_method_19_code 48 = .ok (.iinc 4 1, 3) := by decide +kernel
theorem dc_Mod_seek_51 : decode prog_10_method_19_code 51 = .ok (.goto (-43), 3) := by decide +kernel
theorem dc_Mod_seek_54 : decode prog_10_method_19_code 54 = .ok (.iconst 0, 1) := by decide +kernel
theorem dc_Mod_seek_55 : decode prog_10_method_19_code 55 = .ok (.ireturn, 1) := by decide +kernel
theorem dc_Mod_copyRow_0 : decode prog_10_method_20_code 0 = .ok (.aload_n 0, 1) := by decide +kernel
theorem dc_Mod_copyRow_1 : decode prog_10_method_20_code 1 = .ok (.getfield 13, 3) := by decide +kernel
theorem dc_Mod_copyRow_4 : decode prog_10_method_20_code 4 = .ok (.iload_n 2, 1) := by decide +kernel
theorem dc_Mod_copyRow_5 : decode prog_10_method_20_code 5 = .ok (.aload_n 0, 1) := by decide +kernel
theorem dc_Mod_copyRow_6 : decode prog_10_method_20_code 6 = .ok (.getfield 13, 3) := by decide +kernel
theorem dc_Mod_copyRow_9 : decode prog_10_method_20_code 9 = .ok (.iload_n 1, 1) := by decide +kernel
theorem dc_Mod_copyRow_10 : decode prog_10_method_20_code 10 = .ok (.iaload, 1) := by decide +kernel
theorem dc_Mod_copyRow_11 : decode prog_10_method_20_code 11 = .ok (.iastore, 1) := by decide +kernel
theorem dc_Mod_copyRow_12 : decode prog_10_method_20_code 12 = .ok (.iconst 0, 1) := by decide +kernel
theorem dc_Mod_copyRow_13 : decode prog_10_method_20_code 13 = .ok (.istore_n 3, 1) := by decide +kernel
theorem dc_Mod_copyRow_14 : decode prog_10_method_20_code 14 = .ok (.iload_n 3, 1) := by decide +kernel
theorem dc_Mod_copyRow_15 : decode prog_10_method_20_code 15 = .ok (.aload_n 0, 1) := by decide +kernel
theorem dc_Mod_copyRow_16 : decode prog_10_method_20_code 16 = .ok (.getfield 13, 3) := by decide +kernel
theorem dc_Mod_copyRow_19 : decode prog_10_method_20_code 19 = .ok (.iload_n 1, 1) := by decide +kernel
theorem dc_Mod_copyRow_20 : decode prog_10_method_20_code 20 = .ok (.iaload, 1) := by decide +kernel
theorem dc_Mod_copyRow_21 : decode prog_10_method_20_code 21 = .ok (.if_icmp .ge 31, 3) := by decide +kernel
theorem dc_Mod_copyRow_24 : decode prog_10_method_20_code 24 = .ok (.aload_n 0, 1) := by decide +kernel
theorem dc_Mod_copyRow_25 : decode prog_10_method_20_code 25 = .ok (.getfield 7, 3) := by decide +kernel
theorem dc_Mod_copyRow_28 : decode prog_10_method_20_code 28 = .ok (.bipush 120, 2) := by decide +kernel
theorem dc_Mod_copyRow_30 : decode prog_10_method_20_code 30 = .ok (.iload_n 2, 1) := by decide +kernel
theorem dc_Mod_copyRow_31 : decode prog_10_method_20_code 31 = .ok (.imul, 1) := by decide +kernel
theorem dc_Mod_copyRow_32 : decode prog_10_method_20_code 32 = .ok (.iload_n 3, 1) := by decide +kernel
theorem dc_Mod_copyRow_33 : decode prog_10_method_20_code 33 = .ok (.iadd, 1) := by decide +kernel
theorem dc_Mod_copyRow_34 : decode prog_10_method_20_code 34 = .ok (.aload_n 0, 1) := by decide +kernel
theorem dc_Mod_copyRow_35 : decode prog_10_method_20_code 35 = .ok (.getfield 7, 3) := by decide +kernel
theorem dc_Mod_copyRow_38 : decode prog_10_method_20_code 38 = .ok (.bipush 120, 2) := by decide +kernel
theorem dc_Mod_copyRow_40 : decode prog_10_method_20_code 40 = .ok (.iload_n 1, 1) := by decide +kernel
theorem dc_Mod_copyRow_41 : decode prog_10_method_20_code 41 = .ok (.imul, 1) := by decide +kernel
theorem dc_Mod_copyRow_42 : decode prog_10_method_20_code 42 = .ok (.iload_n 3, 1) := by decide +kernel
theorem dc_Mod_copyRow_43 : decode prog_10_method_20_code 43 = .ok (.iadd, 1) := by decide +kernel
theorem dc_Mod_copyRow_44 : decode prog_10_method_20_code 44 = .ok (.iaload, 1) := by decide +kernel
theorem dc_Mod_copyRow_45 : decode prog_10_method_20_code 45 = .ok (.iastore, 1) := by decide +kernel
theorem dc_Mod_copyRow_46 : decode prog_10_method_20_code 46 = .ok (.iinc 3 1, 3) := by decide +kernel
theorem dc_Mod_copyRow_49 : decode prog_10_method_20_code 49 = .ok (.goto (-35), 3) := by decide +kernel
theorem dc_Mod_copyRow_52 : decode prog_10_method_20_code 52 = .ok (.return_, 1) := by decide +kernel
theorem dc_Mod_text_0 : decode prog_10_method_21_code 0 = .ok (.aload_n 0, 1) := by decide +kernel
theorem dc_Mod_text_1 : decode prog_10_method_21_code 1 = .ok (.iload_n 1, 1) := by decide +kernel
theorem dc_Mod_text_2 : decode prog_10_method_21_code 2 = .ok (.iconst 0, 1) := by decide +kernel
theorem dc_Mod_text_3 : decode prog_10_method_21_code 3 = .ok (.iconst 5, 1) := by decide +kernel
theorem dc_Mod_text_4 : decode prog_10_method_21_code 4 = .ok (.invokestatic 142, 3) := by decide +kernel
theorem dc_Mod_text_7 : decode prog_10_method_21_code 7 = .ok (.iconst 1, 1) := by decide +kernel
theorem dc_Mod_text_8 : decode prog_10_method_21_code 8 = .ok (.invokevirtual 106, 3) := by decide +kernel
theorem dc_Mod_text_11 : decode prog_10_method_21_code 11 = .ok (.ifCond .ne 5, 3) := by decide +kernel
theorem dc_Mod_text_14 : decode prog_10_method_21_code 14 = .ok (.iconst 0, 1) := by decide +kernel
theorem dc_Mod_text_15 : decode prog_10_method_21_code 15 = .ok (.ireturn, 1) := by decide +kernel
theorem dc_Mod_text_16 : decode prog_10_method_21_code 16 = .ok (.aload_n 0, 1) := by decide +kernel
theorem dc_Mod_text_17 : decode prog_10_method_21_code 17 = .ok (.iconst 0, 1) := by decide +kernel
theorem dc_Mod_text_18 : decode prog_10_method_21_code 18 = .ok (.iconst 2, 1) := by decide +kernel
theorem dc_Mod_text_19 : decode prog_10_method_21_code 19 = .ok (.iload_n 1, 1) := by decide +kernel
theorem dc_Mod_text_20 : decode prog_10_method_21_code 20 = .ok (.iadd, 1) := by decide +kernel
theorem dc_Mod_text_21 : decode prog_10_method_21_code 21 = .ok (.invokevirtual 166, 3) := by decide +kernel
theorem dc_Mod_text_24 : decode prog_10_method_21_code 24 = .ok (.aload_n 0, 1) := by decide +kernel
theorem dc_Mod_text_25 : decode prog_10_method_21_code 25 = .ok (.getfield 13, 3) := by decide +kernel
theorem dc_Mod_text_28 : decode prog_10_method_21_code 28 = .ok (.iconst 0, 1) := by decide +kernel
theorem dc_Mod_text_29 : decode prog_10_method_21_code 29 = .ok (.iconst 0, 1) := by decide +kernel
theorem dc_Mod_text_30 : decode prog_10_method_21_code 30 = .ok (.iastore, 1) := by decide +kernel
theorem dc_Mod_text_31 : decode prog_10_method_21_code 31 = .ok (.aload_n 0, 1) := by decide +kernel
theorem dc_Mod_text_32 : decode prog_10_method_21_code 32 = .ok (.getfield 13, 3) := by decide +kernel
theorem dc_Mod_text_35 : decode prog_10_method_21_code 35 = .ok (.iconst 2, 1) := by decide +kernel
theorem dc_Mod_text_36 : decode prog_10_method_21_code 36 = .ok (.iload_n 1, 1) := by decide +kernel
theorem dc_Mod_text_37 : decode prog_10_method_21_code 37 = .ok (.iadd, 1) := by decide +kernel
theorem dc_Mod_text_38 : decode prog_10_method_21_code 38 = .ok (.iaload, 1) := by decide +kernel
theorem dc_Mod_text_39 : decode prog_10_method_21_code 39 = .ok (.ireturn, 1) := by decide +kernel
theorem dc_Mod_separator_0 : decode prog_10_method_22_code 0 = .ok (.aload_n 0, 1) := by decide +kernel
theorem dc_Mod_separator_1 : decode prog_10_method_22_code 1 = .ok (.iload_n 1, 1) := by decide +kernel
theorem dc_Mod_separator_2 : decode prog_10_method_22_code 2 = .ok (.iconst 1, 1) := by decide +kernel
theorem dc_Mod_separator_3 : decode prog_10_method_22_code 3 = .ok (.sipush 255, 3) := by decide +kernel
theorem dc_Mod_separator_6 : decode prog_10_method_22_code 6 = .ok (.invokestatic 142, 3) := by decide +kernel
theorem dc_Mod_separator_9 : decode prog_10_method_22_code 9 = .ok (.iconst 1, 1) := by decide +kernel
theorem dc_Mod_separator_10 : decode prog_10_method_22_code 10 = .ok (.invokevirtual 106, 3) := by decide +kernel
theorem dc_Mod_separator_13 : decode prog_10_method_22_code 13 = .ok (.ifCond .ne 5, 3) := by decide +kernel
theorem dc_Mod_separator_16 : decode prog_10_method_22_code 16 = .ok (.iconst 0, 1) := by decide +kernel
theorem dc_Mod_separator_17 : decode prog_10_method_22_code 17 = .ok (.ireturn, 1) := by decide +kernel
theorem dc_Mod_separator_18 : decode prog_10_method_22_code 18 = .ok (.aload_n 0, 1) := by decide +kernel
theorem dc_Mod_separator_19 : decode prog_10_method_22_code 19 = .ok (.getfield 22, 3) := by decide +kernel
theorem dc_Mod_separator_22 : decode prog_10_method_22_code 22 = .ok (.istore_n 2, 1) := by decide +kernel
theorem dc_Mod_separator_23 : decode prog_10_method_22_code 23 = .ok (.aload_n 0, 1) := by decide +kernel
theorem dc_Mod_separator_24 : decode prog_10_method_22_code 24 = .ok (.iload_n 1, 1) := by decide +kernel
theorem dc_Mod_separator_25 : decode prog_10_method_22_code 25 = .ok (.putfield 22, 3) := by decide +kernel
theorem dc_Mod_separator_28 : decode prog_10_method_22_code 28 = .ok (.iload_n 2, 1) := by decide +kernel
theorem dc_Mod_separator_29 : decode prog_10_method_22_code 29 = .ok (.ireturn, 1) := by decide +kernel
theorem dc_Mod_isField_0 : decode prog_10_method_23_code 0 = .ok (.iload_n 0, 1) := by decide +kernel
theorem dc_Mod_isField_1 : decode prog_10_method_23_code 1 = .ok (.iconst 1, 1) := by decide +kernel
theorem dc_Mod_isField_2 : decode prog_10_method_23_code 2 = .ok (.bipush 30, 2) := by decide +kernel
theorem dc_Mod_isField_4 : decode prog_10_method_23_code 4 = .ok (.invokestatic 142, 3) := by decide +kernel
theorem dc_Mod_isField_7 : decode prog_10_method_23_code 7 = .ok (.ireturn, 1) := by decide +kernel
theorem dc_Mod_rule_0 : decode prog_10_method_24_code 0 = .ok (.iload_n 1, 1) := by decide +kernel
theorem dc_Mod_rule_1 : decode prog_10_method_24_code 1 = .ok (.iconst 0, 1) := by decide +kernel
theorem dc_Mod_rule_2 : decode prog_10_method_24_code 2 = .ok (.bipush 6, 2) := by decide +kernel
theorem dc_Mod_rule_4 : decode prog_10_method_24_code 4 = .ok (.invokestatic 142, 3) := by decide +kernel
theorem dc_Mod_rule_7 : decode prog_10_method_24_code 7 = .ok (.ifCond .eq 55, 3) := by decide +kernel
theorem dc_Mod_rule_10 : decode prog_10_method_24_code 10 = .ok (.iload_n 1, 1) := by decide +kernel
theorem dc_Mod_rule_11 : decode prog_10_method_24_code 11 = .ok (.iconst 1, 1) := by decide +kernel
theorem dc_Mod_rule_12 : decode prog_10_method_24_code 12 = .ok (.if_icmp .eq 8, 3) := by decide +kernel
theorem dc_Mod_rule_15 : decode prog_10_method_24_code 15 = .ok (.iload_n 1, 1) := by decide +kernel
theorem dc_Mod_rule_16 : decode prog_10_method_24_code 16 = .ok (.iconst 2, 1) := by decide +kernel
theorem dc_Mod_rule_17 : decode prog_10_method_24_code 17 = .ok (.if_icmp .ne 12, 3) := by decide +kernel
theorem dc_Mod_rule_20 : decode prog_10_method_24_code 20 = .ok (.iload_n 2, 1) := by decide +kernel
theorem dc_Mod_rule_21 : decode prog_10_method_24_code 21 = .ok (.iconst 0, 1) := by decide +kernel
theorem dc_Mod_rule_22 : decode prog_10_method_24_code 22 = .ok (.iconst 5, 1) := by decide +kernel
theorem dc_Mod_rule_23 : decode prog_10_method_24_code 23 = .ok (.invokestatic 142, 3) := by decide +kernel
theorem dc_Mod_rule_26 : decode prog_10_method_24_code 26 = .ok (.ifCond .eq 36, 3) := by decide +kernel
theorem dc_Mod_rule_29 : decode prog_10_method_24_code 29 = .ok (.iload_n 1, 1) := by decide +kernel
theorem dc_Mod_rule_30 : decode prog_10_method_24_code 30 = .ok (.iconst 2, 1) := by decide +kernel
theorem dc_Mod_rule_31 : decode prog_10_method_24_code 31 = .ok (.if_icmp .ne 10, 3) := by decide +kernel
theorem dc_Mod_rule_34 : decode prog_10_method_24_code 34 = .ok (.iload_n 3, 1) := by decide +kernel
theorem dc_Mod_rule_35 : decode prog_10_method_24_code 35 = .ok (.invokestatic 169, 3) := by decide +kernel
theorem dc_Mod_rule_38 : decode prog_10_method_24_code 38 = .ok (.ifCond .eq 24, 3) := by decide +kernel
theorem dc_Mod_rule_41 : decode prog_10_method_24_code 41 = .ok (.iload_n 1, 1) := by decide +kernel
theorem dc_Mod_rule_42 : decode prog_10_method_24_code 42 = .ok (.iconst 3, 1) := by decide +kernel
theorem dc_Mod_rule_43 : decode prog_10_method_24_code 43 = .ok (.if_icmp .eq 8, 3) := by decide +kernel
theorem dc_Mod_rule_46 : decode prog_10_method_24_code 46 = .ok (.iload_n 1, 1) := by decide +kernel
theorem dc_Mod_rule_47 : decode prog_10_method_24_code 47 = .ok (.iconst 4, 1) := by decide +kernel
theorem dc_Mod_rule_48 : decode prog_10_method_24_code 48 = .ok (.if_icmp .ne 10, 3) := by decide +kernel
theorem dc_Mod_rule_51 : decode prog_10_method_24_code 51 = .ok (.iload_n 2, 1) := by decide +kernel
theorem dc_Mod_rule_52 : decode prog_10_method_24_code 52 = .ok (.invokestatic 169, 3) := by decide +kernel
theorem dc_Mod_rule_55 : decode prog_10_method_24_code 55 = .ok (.ifCond .eq 7, 3) := by decide +kernel
theorem dc_Mod_rule_58 : decode prog_10_method_24_code 58 = .ok (.iconst 1, 1) := by decide +kernel
theorem dc_Mod_rule_59 : decode prog_10_method_24_code 59 = .ok (.goto 4, 3) := by decide +kernel
theorem dc_Mod_rule_62 : decode prog_10_method_24_code 62 = .ok (.iconst 0, 1) := by decide +kernel
theorem dc_Mod_rule_63 : decode prog_10_method_24_code 63 = .ok (.istore 4, 2) := by decide +kernel
theorem dc_Mod_rule_65 : decode prog_10_method_24_code 65 = .ok (.aload_n 0, 1) := by decide +kernel
theorem dc_Mod_rule_66 : decode prog_10_method_24_code 66 = .ok (.iload 4, 2) := by decide +kernel
theorem dc_Mod_rule_68 : decode prog_10_method_24_code 68 = .ok (.aload_n 0, 1) := by decide +kernel
theorem dc_Mod_rule_69 : decode prog_10_method_24_code 69 = .ok (.getfield 172, 3) := by decide +kernel
theorem dc_Mod_rule_72 : decode prog_10_method_24_code 72 = .ok (.bipush 12, 2) := by decide +kernel
theorem dc_Mod_rule_74 : decode prog_10_method_24_code 74 = .ok (.if_icmp .ge 7, 3) := by decide +kernel
theorem dc_Mod_rule_77 : decode prog_10_method_24_code 77 = .ok (.iconst 1, 1) := by decide +kernel
theorem dc_Mod_rule_78 : decode prog_10_method_24_code 78 = .ok (.goto 4, 3) := by decide +kernel
theorem dc_Mod_rule_81 : decode prog_10_method_24_code 81 = .ok (.iconst 0, 1) := by decide +kernel
theorem dc_Mod_rule_82 : decode prog_10_method_24_code 82 = .ok (.invokevirtual 106, 3) := by decide +kernel
theorem dc_Mod_rule_85 : decode prog_10_method_24_code 85 = .ok (.ifCond .ne 5, 3) := by decide +kernel
theorem dc_Mod_rule_88 : decode prog_10_method_24_code 88 = .ok (.iconst 0, 1) := by decide +kernel
theorem dc_Mod_rule_89 : decode prog_10_method_24_code 89 = .ok (.ireturn, 1) := by decide +kernel
theorem dc_Mod_rule_90 : decode prog_10_method_24_code 90 = .ok (.aload_n 0, 1) := by decide +kernel
theorem dc_Mod_rule_91 : decode prog_10_method_24_code 91 = .ok (.getfield 26, 3) := by decide +kernel
theorem dc_Mod_rule_94 : decode prog_10_method_24_code 94 = .ok (.aload_n 0, 1) := by decide +kernel
theorem dc_Mod_rule_95 : decode prog_10_method_24_code 95 = .ok (.getfield 172, 3) := by decide +kernel
theorem dc_Mod_rule_98 : decode prog_10_method_24_code 98 = .ok (.iload_n 1, 1) := by decide +kernel
theorem dc_Mod_rule_99 : decode prog_10_method_24_code 99 = .ok (.iastore, 1) := by decide +kernel
theorem dc_Mod_rule_100 : decode prog_10_method_24_code 100 = .ok (.aload_n 0, 1) := by decide +kernel
theorem dc_Mod_rule_101 : decode prog_10_method_24_code 101 = .ok (.getfield 29, 3) := by decide +kernel
theorem dc_Mod_rule_104 : decode prog_10_method_24_code 104 = .ok (.aload_n 0, 1) := by decide +kernel
theorem dc_Mod_rule_105 : decode prog_10_method_24_code 105 = .ok (.getfield 172, 3) := by decide +kernel
theorem dc_Mod_rule_108 : decode prog_10_method_24_code 108 = .ok (.iload_n 2, 1) := by decide +kernel
theorem dc_Mod_rule_109 : decode prog_10_method_24_code 109 = .ok (.iastore, 1) := by decide +kernel
theorem dc_Mod_rule_110 : decode prog_10_method_24_code 110 = .ok (.aload_n 0, 1) := by decide +kernel
theorem dc_Mod_rule_111 : decode prog_10_method_24_code 111 = .ok (.getfield 32, 3) := by decide +kernel
theorem dc_Mod_rule_114 : decode prog_10_method_24_code 114 = .ok (.aload_n 0, 1) := by decide +kernel
theorem dc_Mod_rule_115 : decode prog_10_method_24_code 115 = .ok (.getfield 172, 3) := by decide +kernel
theorem dc_Mod_rule_118 : decode prog_10_method_24_code 118 = .ok (.iload_n 3, 1) := by decide +kernel
theorem dc_Mod_rule_119 : decode prog_10_method_24_code 119 = .ok (.iastore, 1) := by decide +kernel
theorem dc_Mod_rule_120 : decode prog_10_method_24_code 120 = .ok (.aload_n 0, 1) := by decide +kernel
theorem dc_Mod_rule_121 : decode prog_10_method_24_code 121 = .ok (.getfield 35, 3) := by decide +kernel
theorem dc_Mod_rule_124 : decode prog_10_method_24_code 124 = .ok (.aload_n 0, 1) := by decide +kernel
theorem dc_Mod_rule_125 : decode prog_10_method_24_code 125 = .ok (.getfield 172, 3) := by decide +kernel
theorem dc_Mod_rule_128 : decode prog_10_method_24_code 128 = .ok (.iconst 0, 1) := by decide +kernel
theorem dc_Mod_rule_129 : decode prog_10_method_24_code 129 = .ok (.iastore, 1) := by decide +kernel
theorem dc_Mod_rule_130 : decode prog_10_method_24_code 130 = .ok (.aload_n 0, 1) := by decide +kernel
theorem dc_Mod_rule_131 : decode prog_10_method_24_code 131 = .ok (.dup, 1) := by decide +kernel
theorem dc_Mod_rule_132 : decode prog_10_method_24_code 132 = .ok (.getfield 172, 3) := by decide +kernel
theorem dc_Mod_rule_135 : decode prog_10_method_24_code 135 = .ok (.iconst 1, 1) := by decide +kernel
theorem dc_Mod_rule_136 : decode prog_10_method_24_code 136 = .ok (.iadd, 1) := by decide +kernel
theorem dc_Mod_rule_137 : decode prog_10_method_24_code 137 = .ok (.putfield 172, 3) := by decide +kernel
theorem dc_Mod_rule_140 : decode prog_10_method_24_code 140 = .ok (.aload_n 0, 1) := by decide +kernel
theorem dc_Mod_rule_141 : decode prog_10_method_24_code 141 = .ok (.getfield 172, 3) := by decide +kernel
theorem dc_Mod_rule_144 : decode prog_10_method_24_code 144 = .ok (.iconst 1, 1) := by decide +kernel
theorem dc_Mod_rule_145 : decode prog_10_method_24_code 145 = .ok (.isub, 1) := by decide +kernel
theorem dc_Mod_rule_146 : decode prog_10_method_24_code 146 = .ok (.ireturn, 1) := by decide +kernel
theorem dc_Mod_isAction_0 : decode prog_10_method_25_code 0 = .ok (.iload_n 0, 1) := by decide +kernel
theorem dc_Mod_isAction_1 : decode prog_10_method_25_code 1 = .ok (.tableswitch 156 0 12 #[67, 69, 74, 69, 97, 74, 117, 117, 141, 148, 67, 148, 148], 67) := by decide +kernel
theorem dc_Mod_isAction_68 : decode prog_10_method_25_code 68 = .ok (.iconst 1, 1) := by decide +kernel
theorem dc_Mod_isAction_69 : decode prog_10_method_25_code 69 = .ok (.ireturn, 1) := by decide +kernel
theorem dc_Mod_isAction_70 : decode prog_10_method_25_code 70 = .ok (.iload_n 1, 1) := by decide +kernel
theorem dc_Mod_isAction_71 : decode prog_10_method_25_code 71 = .ok (.invokestatic 169, 3) := by decide +kernel
theorem dc_Mod_isAction_74 : decode prog_10_method_25_code 74 = .ok (.ireturn, 1) := by decide +kernel
theorem dc_Mod_isAction_75 : decode prog_10_method_25_code 75 = .ok (.iload_n 1, 1) := by decide +kernel
theorem dc_Mod_isAction_76 : decode prog_10_method_25_code 76 = .ok (.invokestatic 169, 3) := by decide +kernel
theorem dc_Mod_isAction_79 : decode prog_10_method_25_code 79 = .ok (.ifCond .eq 17, 3) := by decide +kernel
theorem dc_Mod_isAction_82 : decode prog_10_method_25_code 82 = .ok (.iload_n 2, 1) := by decide +kernel
theorem dc_Mod_isAction_83 : decode prog_10_method_25_code 83 = .ok (.iconst 0, 1) := by decide +kernel
theorem dc_Mod_isAction_84 : decode prog_10_method_25_code 84 = .ok (.bipush 7, 2) := by decide +kernel
theorem dc_Mod_isAction_86 : decode prog_10_method_25_code 86 = .ok (.invokestatic 142, 3) := by decide +kernel
theorem dc_Mod_isAction_89 : decode prog_10_method_25_code 89 = .ok (.ifCond .eq 7, 3) := by decide +kernel
theorem dc_Mod_isAction_92 : decode prog_10_method_25_code 92 = .ok (.iconst 1, 1) := by decide +kernel
theorem dc_Mod_isAction_93 : decode prog_10_method_25_code 93 = .ok (.goto 4, 3) := by decide +kernel
theorem dc_Mod_isAction_96 : decode prog_10_method_25_code 96 = .ok (.iconst 0, 1) := by decide +kernel
theorem dc_Mod_isAction_97 : decode prog_10_method_25_code 97 = .ok (.ireturn, 1) := by decide +kernel
theorem dc_Mod_isAction_98 : decode prog_10_method_25_code 98 = .ok (.iload_n 1, 1) := by decide +kernel
theorem dc_Mod_isAction_99 : decode prog_10_method_25_code 99 = .ok (.invokestatic 169, 3) := by decide +kernel
theorem dc_Mod_isAction_102 : decode prog_10_method_25_code 102 = .ok (.ifCond .eq 14, 3) := by decide +kernel
theorem dc_Mod_isAction_105 : decode prog_10_method_25_code 105 = .ok (.iload_n 2, 1) := by decide +kernel
theorem dc_Mod_isAction_106 : decode prog_10_method_25_code 106 = .ok (.invokestatic 169, 3) := by decide +kernel
theorem dc_Mod_isAction_109 : decode prog_10_method_25_code 109 = .ok (.ifCond .eq 7, 3) := by decide +kernel
theorem dc_Mod_isAction_112 : decode prog_10_method_25_code 112 = .ok (.iconst 1, 1) := by decide +kernel
theorem dc_Mod_isAction_113 : decode prog_10_method_25_code 113 = .ok (.goto 4, 3) := by decide +kernel
theorem dc_Mod_isAction_116 : decode prog_10_method_25_code 116 = .ok (.iconst 0, 1) := by decide +kernel
theorem dc_Mod_isAction_117 : decode prog_10_method_25_code 117 = .ok (.ireturn, 1) := by decide +kernel
theorem dc_Mod_isAction_118 : decode prog_10_method_25_code 118 = .ok (.iload_n 1, 1) := by decide +kernel
theorem dc_Mod_isAction_119 : decode prog_10_method_25_code 119 = .ok (.iconst 0, 1) := by decide +kernel
theorem dc_Mod_isAction_120 : decode prog_10_method_25_code 120 = .ok (.iconst 5, 1) := by decide +kernel
theorem dc_Mod_isAction_121 : decode prog_10_method_25_code 121 = .ok (.invokestatic 142, 3) := by decide +kernel
theorem dc_Mod_isAction_124 : decode prog_10_method_25_code 124 = .ok (.ifCond .eq 16, 3) := by decide +kernel
theorem dc_Mod_isAction_127 : decode prog_10_method_25_code 127 = .ok (.iload_n 2, 1) := by decide +kernel
theorem dc_Mod_isAction_128 : decode prog_10_method_25_code 128 = .ok (.iconst 0, 1) := by decide +kernel
theorem dc_Mod_isAction_129 : decode prog_10_method_25_code 129 = .ok (.iconst 5, 1) := by decide +kernel
theorem dc_Mod_isAction_130 : decode prog_10_method_25_code 130 = .ok (.invokestatic 142, 3) := by decide +kernel
theorem dc_Mod_isAction_133 : decode prog_10_method_25_code 133 = .ok (.ifCond .eq 7, 3) := by decide +kernel
theorem dc_Mod_isAction_136 : decode prog_10_method_25_code 136 = .ok (.iconst 1, 1) := by decide +kernel
theorem dc_Mod_isAction_137 : decode prog_10_method_25_code 137 = .ok (.goto 4, 3) := by decide +kernel
theorem dc_Mod_isAction_140 : decode prog_10_method_25_code 140 = .ok (.iconst 0, 1) := by decide +kernel
theorem dc_Mod_isAction_141 : decode prog_10_method_25_code 141 = .ok (.ireturn, 1) := by decide +kernel
theorem dc_Mod_isAction_142 : decode prog_10_method_25_code 142 = .ok (.iload_n 1, 1) := by decide +kernel
theorem dc_Mod_isAction_143 : decode prog_10_method_25_code 143 = .ok (.iconst 0, 1) := by decide +kernel
theorem dc_Mod_isAction_144 : decode prog_10_method_25_code 144 = .ok (.iconst 5, 1) := by decide +kernel
theorem dc_Mod_isAction_145 : decode prog_10_method_25_code 145 = .ok (.invokestatic 142, 3) := by decide +kernel
theorem dc_Mod_isAction_148 : decode prog_10_method_25_code 148 = .ok (.ireturn, 1) := by decide +kernel
theorem dc_Mod_isAction_149 : decode prog_10_method_25_code 149 = .ok (.iload_n 1, 1) := by decide +kernel
theorem dc_Mod_isAction_150 : decode prog_10_method_25_code 150 = .ok (.iconst 0, 1) := by decide +kernel
theorem dc_Mod_isAction_151 : decode prog_10_method_25_code 151 = .ok (.bipush 7, 2) := by decide +kernel
theorem dc_Mod_isAction_153 : decode prog_10_method_25_code 153 = .ok (.invokestatic 142, 3) := by decide +kernel
theorem dc_Mod_isAction_156 : decode prog_10_method_25_code 156 = .ok (.ireturn, 1) := by decide +kernel
theorem dc_Mod_isAction_157 : decode prog_10_method_25_code 157 = .ok (.iconst 0, 1) := by decide +kernel
theorem dc_Mod_isAction_158 : decode prog_10_method_25_code 158 = .ok (.ireturn, 1) := by decide +kernel
theorem dc_Mod_action_0 : decode prog_10_method_26_code 0 = .ok (.iload_n 1, 1) := by decide +kernel
theorem dc_Mod_action_1 : decode prog_10_method_26_code 1 = .ok (.ifCond .lt 25, 3) := by decide +kernel
theorem dc_Mod_action_4 : decode prog_10_method_26_code 4 = .ok (.iload_n 1, 1) := by decide +kernel
theorem dc_Mod_action_5 : decode prog_10_method_26_code 5 = .ok (.aload_n 0, 1) := by decide +kernel
theorem dc_Mod_action_6 : decode prog_10_method_26_code 6 = .ok (.getfield 172, 3) := by decide +kernel
theorem dc_Mod_action_9 : decode prog_10_method_26_code 9 = .ok (.if_icmp .ge 17, 3) := by decide +kernel
theorem dc_Mod_action_12 : decode prog_10_method_26_code 12 = .ok (.iload_n 2, 1) := by decide +kernel
theorem dc_Mod_action_13 : decode prog_10_method_26_code 13 = .ok (.iload_n 3, 1) := by decide +kernel
theorem dc_Mod_action_14 : decode prog_10_method_26_code 14 = .ok (.iload 4, 2) := by decide +kernel
theorem dc_Mod_action_16 : decode prog_10_method_26_code 16 = .ok (.invokestatic 175, 3) := by decide +kernel
theorem dc_Mod_action_19 : decode prog_10_method_26_code 19 = .ok (.ifCond .eq 7, 3) := by decide +kernel
theorem dc_Mod_action_22 : decode prog_10_method_26_code 22 = .ok (.iconst 1, 1) := by decide +kernel
theorem dc_Mod_action_23 : decode prog_10_method_26_code 23 = .ok (.goto 4, 3) := by decide +kernel
theorem dc_Mod_action_26 : decode prog_10_method_26_code 26 = .ok (.iconst 0, 1) := by decide +kernel
theorem dc_Mod_action_27 : decode prog_10_method_26_code 27 = .ok (.istore 5, 2) := by decide +kernel
theorem dc_Mod_action_29 : decode prog_10_method_26_code 29 = .ok (.aload_n 0, 1) := by decide +kernel
theorem dc_Mod_action_30 : decode prog_10_method_26_code 30 = .ok (.iload 5, 2) := by decide +kernel
theorem dc_Mod_action_32 : decode prog_10_method_26_code 32 = .ok (.iload 5, 2) := by decide +kernel
theorem dc_Mod_action_34 : decode prog_10_method_26_code 34 = .ok (.ifCond .eq 18, 3) := by decide +kernel
theorem dc_Mod_action_37 : decode prog_10_method_26_code 37 = .ok (.aload_n 0, 1) := by decide +kernel
theorem dc_Mod_action_38 : decode prog_10_method_26_code 38 = .ok (.getfield 35, 3) := by decide +kernel
theorem dc_Mod_action_41 : decode prog_10_method_26_code 41 = .ok (.iload_n 1, 1) := by decide +kernel
theorem dc_Mod_action_42 : decode prog_10_method_26_code 42 = .ok (.iaload, 1) := by decide +kernel
theorem dc_Mod_action_43 : decode prog_10_method_26_code 43 = .ok (.bipush 10, 2) := by decide +kernel
theorem dc_Mod_action_45 : decode prog_10_method_26_code 45 = .ok (.if_icmp .ge 7, 3) := by decide +kernel
theorem dc_Mod_action_48 : decode prog_10_method_26_code 48 = .ok (.iconst 1, 1) := by decide +kernel
theorem dc_Mod_action_49 : decode prog_10_method_26_code 49 = .ok (.goto 4, 3) := by decide +kernel
theorem dc_Mod_action_52 : decode prog_10_method_26_code 52 = .ok (.iconst 0, 1) := by decide +kernel
theorem dc_Mod_action_53 : decode prog_10_method_26_code 53 = .ok (.invokevirtual 106, 3) := by decide +kernel
theorem dc_Mod_action_56 : decode prog_10_method_26_code 56 = .ok (.ifCond .ne 5, 3) := by decide +kernel
theorem dc_Mod_action_59 : decode prog_10_method_26_code 59 = .ok (.iconst 0, 1) := by decide +kernel
theorem dc_Mod_action_60 : decode prog_10_method_26_code 60 = .ok (.ireturn, 1) := by decide +kernel
theorem dc_Mod_action_61 : decode prog_10_method_26_code 61 = .ok (.bipush 10, 2) := by decide +kernel
theorem dc_Mod_action_63 : decode prog_10_method_26_code 63 = .ok (.iload_n 1, 1) := by decide +kernel
theorem dc_Mod_action_64 : decode prog_10_method_26_code 64 = .ok (.imul, 1) := by decide +kernel
theorem dc_Mod_action_65 : decode prog_10_method_26_code 65 = .ok (.aload_n 0, 1) := by decide +kernel
theorem dc_Mod_action_66 : decode prog_10_method_26_code 66 = .ok (.getfield 35, 3) := by decide +kernel
theorem dc_Mod_action_69 : decode prog_10_method_26_code 69 = .ok (.iload_n 1, 1) := by decide +kernel
theorem dc_Mod_action_70 : decode prog_10_method_26_code 70 = .ok (.iaload, 1) := by decide +kernel
theorem dc_Mod_action_71 : decode prog_10_method_26_code 71 = .ok (.iadd, 1) := by decide +kernel
theorem dc_Mod_action_72 : decode prog_10_method_26_code 72 = .ok (.istore 6, 2) := by decide +kernel
theorem dc_Mod_action_74 : decode prog_10_method_26_code 74 = .ok (.aload_n 0, 1) := by decide +kernel
theorem dc_Mod_action_75 : decode prog_10_method_26_code 75 = .ok (.getfield 38, 3) := by decide +kernel
theorem dc_Mod_action_78 : decode prog_10_method_26_code 78 = .ok (.iload 6, 2) := by decide +kernel
theorem dc_Mod_action_80 : decode prog_10_method_26_code 80 = .ok (.iload_n 2, 1) := by decide +kernel
theorem dc_Mod_action_81 : decode prog_10_method_26_code 81 = .ok (.iastore, 1) := by decide +kernel
theorem dc_Mod_action_82 : decode prog_10_method_26_code 82 = .ok (.aload_n 0, 1) := by decide +kernel
theorem dc_Mod_action_83 : decode prog_10_method_26_code 83 = .ok (.getfield 41, 3) := by decide +kernel
theorem dc_Mod_action_86 : decode prog_10_method_26_code 86 = .ok (.iload 6, 2) := by decide +kernel
theorem dc_Mod_action_88 : decode prog_10_method_26_code 88 = .ok (.iload_n 3, 1) := by decide +kernel
theorem dc_Mod_action_89 : decode prog_10_method_26_code 89 = .ok (.iastore, 1) := by decide +kernel
theorem dc_Mod_action_90 : decode prog_10_method_26_code 90 = .ok (.aload_n 0, 1) := by decide +kernel
theorem dc_Mod_action_91 : decode prog_10_method_26_code 91 = .ok (.getfield 44, 3) := by decide +kernel
theorem dc_Mod_action_94 : decode prog_10_method_26_code 94 = .ok (.iload 6, 2) := by decide +kernel
theorem dc_Mod_action_96 : decode prog_10_method_26_code 96 = .ok (.iload 4, 2) := by decide +kernel
theorem dc_Mod_action_98 : decode prog_10_method_26_code 98 = .ok (.iastore, 1) := by decide +kernel
theorem dc_Mod_action_99 : decode prog_10_method_26_code 99 = .ok (.aload_n 0, 1) := by decide +kernel
theorem dc_Mod_action_100 : decode prog_10_method_26_code 100 = .ok (.getfield 35, 3) := by decide +kernel
theorem dc_Mod_action_103 : decode prog_10_method_26_code 103 = .ok (.iload_n 1, 1) := by decide +kernel
theorem dc_Mod_action_104 : decode prog_10_method_26_code 104 = .ok (.dup2, 1) := by decide +kernel
theorem dc_Mod_action_105 : decode prog_10_method_26_code 105 = .ok (.iaload, 1) := by decide +kernel
theorem dc_Mod_action_106 : decode prog_10_method_26_code 106 = .ok (.iconst 1, 1) := by decide +kernel
theorem dc_Mod_action_107 : decode prog_10_method_26_code 107 = .ok (.iadd, 1) := by decide +kernel
theorem dc_Mod_action_108 : decode prog_10_method_26_code 108 = .ok (.iastore, 1) := by decide +kernel
theorem dc_Mod_action_109 : decode prog_10_method_26_code 109 = .ok (.aload_n 0, 1) := by decide +kernel
theorem dc_Mod_action_110 : decode prog_10_method_26_code 110 = .ok (.getfield 35, 3) := by decide +kernel
theorem dc_Mod_action_113 : decode prog_10_method_26_code 113 = .ok (.iload_n 1, 1) := by decide +kernel
theorem dc_Mod_action_114 : decode prog_10_method_26_code 114 = .ok (.iaload, 1) := by decide +kernel
theorem dc_Mod_action_115 : decode prog_10_method_26_code 115 = .ok (.ireturn, 1) := by decide +kernel
theorem dc_Mod_forget_0 : decode prog_10_method_27_code 0 = .ok (.aload_n 0, 1) := by decide +kernel
theorem dc_Mod_forget_1 : decode prog_10_method_27_code 1 = .ok (.iconst 0, 1) := by decide +kernel
theorem dc_Mod_forget_2 : decode prog_10_method_27_code 2 = .ok (.putfield 99, 3) := by decide +kernel
theorem dc_Mod_forget_5 : decode prog_10_method_27_code 5 = .ok (.aload_n 0, 1) := by decide +kernel
theorem dc_Mod_forget_6 : decode prog_10_method_27_code 6 = .ok (.getfield 172, 3) := by decide +kernel
theorem dc_Mod_forget_9 : decode prog_10_method_27_code 9 = .ok (.istore_n 1, 1) := by decide +kernel
theorem dc_Mod_forget_10 : decode prog_10_method_27_code 10 = .ok (.aload_n 0, 1) := by decide +kernel
theorem dc_Mod_forget_11 : decode prog_10_method_27_code 11 = .ok (.iconst 0, 1) := by decide +kernel
theorem dc_Mod_forget_12 : decode prog_10_method_27_code 12 = .ok (.putfield 172, 3) := by decide +kernel
theorem dc_Mod_forget_15 : decode prog_10_method_27_code 15 = .ok (.iload_n 1, 1) := by decide +kernel
theorem dc_Mod_forget_16 : decode prog_10_method_27_code 16 = .ok (.ireturn, 1) := by decide +kernel
theorem dc_Mod_field_0 : decode prog_10_method_28_code 0 = .ok (.aload_n 0, 1) := by decide +kernel
theorem dc_Mod_field_1 : decode prog_10_method_28_code 1 = .ok (.getfield 178, 3) := by decide +kernel
theorem dc_Mod_field_4 : decode prog_10_method_28_code 4 = .ok (.bipush 30, 2) := by decide +kernel
theorem dc_Mod_field_6 : decode prog_10_method_28_code 6 = .ok (.if_icmp .ge 63, 3) := by decide +kernel
theorem dc_Mod_field_9 : decode prog_10_method_28_code 9 = .ok (.aload_n 0, 1) := by decide +kernel
theorem dc_Mod_field_10 : decode prog_10_method_28_code 10 = .ok (.getfield 50, 3) := by decide +kernel
theorem dc_Mod_field_13 : decode prog_10_method_28_code 13 = .ok (.aload_n 0, 1) := by decide +kernel
theorem dc_Mod_field_14 : decode prog_10_method_28_code 14 = .ok (.getfield 178, 3) := by decide +kernel
theorem dc_Mod_field_17 : decode prog_10_method_28_code 17 = .ok (.iload_n 2, 1) := by decide +kernel
theorem dc_Mod_field_18 : decode prog_10_method_28_code 18 = .ok (.iload_n 1, 1) := by decide +kernel
theorem dc_Mod_field_19 : decode prog_10_method_28_code 19 = .ok (.isub, 1) := by decide +kernel
theorem dc_Mod_field_20 : decode prog_10_method_28_code 20 = .ok (.iastore, 1) := by decide +kernel
theorem dc_Mod_field_21 : decode prog_10_method_28_code 21 = .ok (.iload_n 1, 1) := by decide +kernel
theorem dc_Mod_field_22 : decode prog_10_method_28_code 22 = .ok (.istore_n 3, 1) := by decide +kernel
theorem dc_Mod_field_23 : decode prog_10_method_28_code 23 = .ok (.iload_n 3, 1) := by decide +kernel
theorem dc_Mod_field_24 : decode prog_10_method_28_code 24 = .ok (.iload_n 2, 1) := by decide +kernel
theorem dc_Mod_field_25 : decode prog_10_method_28_code 25 = .ok (.if_icmp .ge 34, 3) := by decide +kernel
theorem dc_Mod_field_28 : decode prog_10_method_28_code 28 = .ok (.aload_n 0, 1) := by decide +kernel
theorem dc_Mod_field_29 : decode prog_10_method_28_code 29 = .ok (.getfield 47, 3) := by decide +kernel
theorem dc_Mod_field_32 : decode prog_10_method_28_code 32 = .ok (.bipush 120, 2) := by decide +kernel
theorem dc_Mod_field_34 : decode prog_10_method_28_code 34 = .ok (.aload_n 0, 1) := by decide +kernel
theorem dc_Mod_field_35 : decode prog_10_method_28_code 35 = .ok (.getfield 178, 3) := by decide +kernel
theorem dc_Mod_field_38 : decode prog_10_method_28_code 38 = .ok (.imul, 1) := by decide +kernel
theorem dc_Mod_field_39 : decode prog_10_method_28_code 39 = .ok (.iload_n 3, 1) := by decide +kernel
theorem dc_Mod_field_40 : decode prog_10_method_28_code 40 = .ok (.iadd, 1) := by decide +kernel
theorem dc_Mod_field_41 : decode prog_10_method_28_code 41 = .ok (.iload_n 1, 1) := by decide +kernel
theorem dc_Mod_field_42 : decode prog_10_method_28_code 42 = .ok (.isub, 1) := by decide +kernel
theorem dc_Mod_field_43 : decode prog_10_method_28_code 43 = .ok (.aload_n 0, 1) := by decide +kernel
theorem dc_Mod_field_44 : decode prog_10_method_28_code 44 = .ok (.getfield 7, 3) := by decide +kernel
theorem dc_Mod_field_47 : decode prog_10_method_28_code 47 = .ok (.bipush 120, 2) := by decide +kernel
theorem dc_Mod_field_49 : decode prog_10_method_28_code 49 = .ok (.iload_n 3, 1) := by decide +kernel
theorem dc_Mod_field_50 : decode prog_10_method_28_code 50 = .ok (.iadd, 1) := by decide +kernel
theorem dc_Mod_field_51 : decode prog_10_method_28_code 51 = .ok (.iaload, 1) := by decide +kernel
theorem dc_Mod_field_52 : decode prog_10_method_28_code 52 = .ok (.iastore, 1) := by decide +kernel
theorem dc_Mod_field_53 : decode prog_10_method_28_code 53 = .ok (.iinc 3 1, 3) := by decide +kernel
theorem dc_Mod_field_56 : decode prog_10_method_28_code 56 = .ok (.goto (-33), 3) := by decide +kernel
theorem dc_Mod_field_59 : decode prog_10_method_28_code 59 = .ok (.aload_n 0, 1) := by decide +kernel
theorem dc_Mod_field_60 : decode prog_10_method_28_code 60 = .ok (.dup, 1) := by decide +kernel
theorem dc_Mod_field_61 : decode prog_10_method_28_code 61 = .ok (.getfield 178, 3) := by decide +kernel
theorem dc_Mod_field_64 : decode prog_10_method_28_code 64 = .ok (.iconst 1, 1) := by decide +kernel
theorem dc_Mod_field_65 : decode prog_10_method_28_code 65 = .ok (.iadd, 1) := by decide +kernel
theorem dc_Mod_field_66 : decode prog_10_method_28_code 66 = .ok (.putfield 178, 3) := by decide +kernel
theorem dc_Mod_field_69 : decode prog_10_method_28_code 69 = .ok (.return_, 1) := by decide +kernel
theorem dc_Mod_part_0 : decode prog_10_method_29_code 0 = .ok (.aload_n 0, 1) := by decide +kernel
theorem dc_Mod_part_1 : decode prog_10_method_29_code 1 = .ok (.iconst 0, 1) := by decide +kernel
theorem dc_Mod_part_2 : decode prog_10_method_29_code 2 = .ok (.putfield 178, 3) := by decide +kernel
theorem dc_Mod_part_5 : decode prog_10_method_29_code 5 = .ok (.iconst 0, 1) := by decide +kernel
theorem dc_Mod_part_6 : decode prog_10_method_29_code 6 = .ok (.istore_n 1, 1) := by decide +kernel
theorem dc_Mod_part_7 : decode prog_10_method_29_code 7 = .ok (.iconst 0, 1) := by decide +kernel
theorem dc_Mod_part_8 : decode prog_10_method_29_code 8 = .ok (.istore_n 2, 1) := by decide +kernel
theorem dc_Mod_part_9 : decode prog_10_method_29_code 9 = .ok (.iload_n 2, 1) := by decide +kernel
theorem dc_Mod_part_10 : decode prog_10_method_29_code 10 = .ok (.aload_n 0, 1) := by decide +kernel
theorem dc_Mod_part_11 : decode prog_10_method_29_code 11 = .ok (.getfield 13, 3) := by decide +kernel
theorem dc_Mod_part_14 : decode prog_10_method_29_code 14 = .ok (.iconst 1, 1) := by decide +kernel
theorem dc_Mod_part_15 : decode prog_10_method_29_code 15 = .ok (.iaload, 1) := by decide +kernel
theorem dc_Mod_part_16 : decode prog_10_method_29_code 16 = .ok (.if_icmp .gt 68, 3) := by decide +kernel
theorem dc_Mod_part_19 : decode prog_10_method_29_code 19 = .ok (.aload_n 0, 1) := by decide +kernel
theorem dc_Mod_part_20 : decode prog_10_method_29_code 20 = .ok (.getfield 13, 3) := by decide +kernel
theorem dc_Mod_part_23 : decode prog_10_method_29_code 23 = .ok (.iconst 1, 1) := by decide +kernel
theorem dc_Mod_part_24 : decode prog_10_method_29_code 24 = .ok (.iaload, 1) := by decide +kernel
theorem dc_Mod_part_25 : decode prog_10_method_29_code 25 = .ok (.ifCond .le 59, 3) := by decide +kernel
theorem dc_Mod_part_28 : decode prog_10_method_29_code 28 = .ok (.iload_n 2, 1) := by decide +kernel
theorem dc_Mod_part_29 : decode prog_10_method_29_code 29 = .ok (.aload_n 0, 1) := by decide +kernel
theorem dc_Mod_part_30 : decode prog_10_method_29_code 30 = .ok (.getfield 13, 3) := by decide +kernel
theorem dc_Mod_part_33 : decode prog_10_method_29_code 33 = .ok (.iconst 1, 1) := by decide +kernel
theorem dc_Mod_part_34 : decode prog_10_method_29_code 34 = .ok (.iaload, 1) := by decide +kernel
theorem dc_Mod_part_35 : decode prog_10_method_29_code 35 = .ok (.if_icmp .eq 19, 3) := by decide +kernel
theorem dc_Mod_part_38 : decode prog_10_method_29_code 38 = .ok (.aload_n 0, 1) := by decide +kernel
theorem dc_Mod_part_39 : decode prog_10_method_29_code 39 = .ok (.getfield 7, 3) := by decide +kernel
theorem dc_Mod_part_42 : decode prog_10_method_29_code 42 = .ok (.bipush 120, 2) := by decide +kernel
theorem dc_Mod_part_44 : decode prog_10_method_29_code 44 = .ok (.iload_n 2, 1) := by decide +kernel
theorem dc_Mod_part_45 : decode prog_10_method_29_code 45 = .ok (.iadd, 1) := by decide +kernel
theorem dc_Mod_part_46 : decode prog_10_method_29_code 46 = .ok (.iaload, 1) := by decide +kernel
theorem dc_Mod_part_47 : decode prog_10_method_29_code 47 = .ok (.aload_n 0, 1) := by decide +kernel
theorem dc_Mod_part_48 : decode prog_10_method_29_code 48 = .ok (.getfield 22, 3) := by decide +kernel
theorem dc_Mod_part_51 : decode prog_10_method_29_code 51 = .ok (.if_icmp .ne 27, 3) := by decide +kernel
theorem dc_Mod_part_54 : decode prog_10_method_29_code 54 = .ok (.aload_n 0, 1) := by decide +kernel
theorem dc_Mod_part_55 : decode prog_10_method_29_code 55 = .ok (.getfield 22, 3) := by decide +kernel
theorem dc_Mod_part_58 : decode prog_10_method_29_code 58 = .ok (.bipush 32, 2) := by decide +kernel
theorem dc_Mod_part_60 : decode prog_10_method_29_code 60 = .ok (.if_icmp .ne 8, 3) := by decide +kernel
theorem dc_Mod_part_63 : decode prog_10_method_29_code 63 = .ok (.iload_n 2, 1) := by decide +kernel
theorem dc_Mod_part_64 : decode prog_10_method_29_code 64 = .ok (.iload_n 1, 1) := by decide +kernel
theorem dc_Mod_part_65 : decode prog_10_method_29_code 65 = .ok (.if_icmp .le 9, 3) := by decide +kernel
theorem dc_Mod_part_68 : decode prog_10_method_29_code 68 = .ok (.aload_n 0, 1) := by decide +kernel
theorem dc_Mod_part_69 : decode prog_10_method_29_code 69 = .ok (.iload_n 1, 1) := by decide +kernel
theorem dc_Mod_part_70 : decode prog_10_method_29_code 70 = .ok (.iload_n 2, 1) := by decide +kernel
theorem dc_Mod_part_71 : decode prog_10_method_29_code 71 = .ok (.invokevirtual 181, 3) := by decide +kernel
theorem dc_Mod_part_74 : decode prog_10_method_29_code 74 = .ok (.iload_n 2, 1) := by decide +kernel
theorem dc_Mod_part_75 : decode prog_10_method_29_code 75 = .ok (.iconst 1, 1) := by decide +kernel
theorem dc_Mod_part_76 : decode prog_10_method_29_code 76 = .ok (.iadd, 1) := by decide +kernel
theorem dc_Mod_part_77 : decode prog_10_method_29_code 77 = .ok (.istore_n 1, 1) := by decide +kernel
theorem dc_Mod_part_78 : decode prog_10_method_29_code 78 = .ok (.iinc 2 1, 3) := by decide +kernel
theorem dc_Mod_part_81 : decode prog_10_method_29_code 81 = .ok (.goto (-72), 3) := by decide +kernel
theorem dc_Mod_part_84 : decode prog_10_method_29_code 84 = .ok (.return_, 1) := by decide +kernel
theorem dc_Mod_sizeOf_0 : decode prog_10_method_30_code 0 = .ok (.iload_n 1, 1) := by decide +kernel
theorem dc_Mod_sizeOf_1 : decode prog_10_method_30_code 1 = .ok (.aload_n 0, 1) := by decide +kernel
theorem dc_Mod_sizeOf_2 : decode prog_10_method_30_code 2 = .ok (.getfield 178, 3) := by decide +kernel
theorem dc_Mod_sizeOf_5 : decode prog_10_method_30_code 5 = .ok (.if_icmp .gt 14, 3) := by decide +kernel
theorem dc_Mod_sizeOf_8 : decode prog_10_method_30_code 8 = .ok (.aload_n 0, 1) := by decide +kernel
theorem dc_Mod_sizeOf_9 : decode prog_10_method_30_code 9 = .ok (.getfield 50, 3) := by decide +kernel
theorem dc_Mod_sizeOf_12 : decode prog_10_method_30_code 12 = .ok (.iload_n 1, 1) := by decide +kernel
theorem dc_Mod_sizeOf_13 : decode prog_10_method_30_code 13 = .ok (.iconst 1, 1) := by decide +kernel
theorem dc_Mod_sizeOf_14 : decode prog_10_method_30_code 14 = .ok (.isub, 1) := by decide +kernel
theorem dc_Mod_sizeOf_15 : decode prog_10_method_30_code 15 = .ok (.iaload, 1) := by decide +kernel
theorem dc_Mod_sizeOf_16 : decode prog_10_method_30_code 16 = .ok (.goto 4, 3) := by decide +kernel
theorem dc_Mod_sizeOf_19 : decode prog_10_method_30_code 19 = .ok (.iconst 0, 1) := by decide +kernel
theorem dc_Mod_sizeOf_20 : decode prog_10_method_30_code 20 = .ok (.ireturn, 1) := by decide +kernel
theorem dc_Mod_signOf_0 : decode prog_10_method_31_code 0 = .ok (.aload_n 0, 1) := by decide +kernel
theorem dc_Mod_signOf_1 : decode prog_10_method_31_code 1 = .ok (.getfield 47, 3) := by decide +kernel
theorem dc_Mod_signOf_4 : decode prog_10_method_31_code 4 = .ok (.bipush 120, 2) := by decide +kernel
theorem dc_Mod_signOf_6 : decode prog_10_method_31_code 6 = .ok (.iload_n 1, 1) := by decide +kernel
theorem dc_Mod_signOf_7 : decode prog_10_method_31_code 7 = .ok (.imul, 1) := by decide +kernel
theorem dc_Mod_signOf_8 : decode prog_10_method_31_code 8 = .ok (.bipush 120, 2) := by decide +kernel
theorem dc_Mod_signOf_10 : decode prog_10_method_31_code 10 = .ok (.isub, 1) := by decide +kernel
theorem dc_Mod_signOf_11 : decode prog_10_method_31_code 11 = .ok (.iload_n 2, 1) := by decide +kernel
theorem dc_Mod_signOf_12 : decode prog_10_method_31_code 12 = .ok (.iadd, 1) := by decide +kernel
theorem dc_Mod_signOf_13 : decode prog_10_method_31_code 13 = .ok (.iaload, 1) := by decide +kernel
theorem dc_Mod_signOf_14 : decode prog_10_method_31_code 14 = .ok (.ireturn, 1) := by decide +kernel
theorem dc_Mod_numberOf_0 : decode prog_10_method_32_code 0 = .ok (.aload_n 0, 1) := by decide +kernel
theorem dc_Mod_numberOf_1 : decode prog_10_method_32_code 1 = .ok (.iload_n 1, 1) := by decide +kernel
theorem dc_Mod_numberOf_2 : decode prog_10_method_32_code 2 = .ok (.invokevirtual 184, 3) := by decide +kernel
theorem dc_Mod_numberOf_5 : decode prog_10_method_32_code 5 = .ok (.ifCond .le 18, 3) := by decide +kernel
theorem dc_Mod_numberOf_8 : decode prog_10_method_32_code 8 = .ok (.aload_n 0, 1) := by decide +kernel
theorem dc_Mod_numberOf_9 : decode prog_10_method_32_code 9 = .ok (.iload_n 1, 1) := by decide +kernel
theorem dc_Mod_numberOf_10 : decode prog_10_method_32_code 10 = .ok (.iconst 0, 1) := by decide +kernel
theorem dc_Mod_numberOf_11 : decode prog_10_method_32_code 11 = .ok (.invokevirtual 187, 3) := by decide +kernel
theorem dc_Mod_numberOf_14 : decode prog_10_method_32_code 14 = .ok (.bipush 45, 2) := by decide +kernel
theorem dc_Mod_numberOf_16 : decode prog_10_method_32_code 16 = .ok (.if_icmp .ne 7, 3) := by decide +kernel
theorem dc_Mod_numberOf_19 : decode prog_10_method_32_code 19 = .ok (.iconst 1, 1) := by decide +kernel
theorem dc_Mod_numberOf_20 : decode prog_10_method_32_code 20 = .ok (.goto 4, 3) := by decide +kernel
theorem dc_Mod_numberOf_23 : decode prog_10_method_32_code 23 = .ok (.iconst 0, 1) := by decide +kernel
theorem dc_Mod_numberOf_24 : decode prog_10_method_32_code 24 = .ok (.istore_n 2, 1) := by decide +kernel
theorem dc_Mod_numberOf_25 : decode prog_10_method_32_code 25 = .ok (.iconst 0, 1) := by decide +kernel
theorem dc_Mod_numberOf_26 : decode prog_10_method_32_code 26 = .ok (.istore_n 3, 1) := by decide +kernel
theorem dc_Mod_numberOf_27 : decode prog_10_method_32_code 27 = .ok (.iload_n 2, 1) := by decide +kernel
theorem dc_Mod_numberOf_28 : decode prog_10_method_32_code 28 = .ok (.ifCond .eq 7, 3) := by decide +kernel
theorem dc_Mod_numberOf_31 : decode prog_10_method_32_code 31 = .ok (.iconst 1, 1) := by decide +kernel
theorem dc_Mod_numberOf_32 : decode prog_10_method_32_code 32 = .ok (.goto 4, 3) := by decide +kernel
theorem dc_Mod_numberOf_35 : decode prog_10_method_32_code 35 = .ok (.iconst 0, 1) := by decide +kernel
theorem dc_Mod_numberOf_36 : decode prog_10_method_32_code 36 = .ok (.istore 4, 2) := by decide +kernel
theorem dc_Mod_numberOf_38 : decode prog_10_method_32_code 38 = .ok (.iload 4, 2) := by decide +kernel
theorem dc_Mod_numberOf_40 : decode prog_10_method_32_code 40 = .ok (.aload_n 0, 1) := by decide +kernel
theorem dc_Mod_numberOf_41 : decode prog_10_method_32_code 41 = .ok (.iload_n 1, 1) := by decide +kernel
theorem dc_Mod_numberOf_42 : decode prog_10_method_32_code 42 = .ok (.invokevirtual 184, 3) := by decide +kernel
theorem dc_Mod_numberOf_45 : decode prog_10_method_32_code 45 = .ok (.if_icmp .ge 49, 3) := by decide +kernel
theorem dc_Mod_numberOf_48 : decode prog_10_method_32_code 48 = .ok (.aload_n 0, 1) := by decide +kernel
theorem dc_Mod_numberOf_49 : decode prog_10_method_32_code 49 = .ok (.iload_n 1, 1) := by decide +kernel
theorem dc_Mod_numberOf_50 : decode prog_10_method_32_code 50 = .ok (.iload 4, 2) := by decide +kernel
theorem dc_Mod_numberOf_52 : decode prog_10_method_32_code 52 = .ok (.invokevirtual 187, 3) := by decide +kernel
theorem dc_Mod_numberOf_55 : decode prog_10_method_32_code 55 = .ok (.bipush 48, 2) := by decide +kernel
theorem dc_Mod_numberOf_57 : decode prog_10_method_32_code 57 = .ok (.if_icmp .lt 37, 3) := by decide +kernel
theorem dc_Mod_numberOf_60 : decode prog_10_method_32_code 60 = .ok (.aload_n 0, 1) := by decide +kernel
theorem dc_Mod_numberOf_61 : decode prog_10_method_32_code 61 = .ok (.iload_n 1, 1) := by decide +kernel
theorem dc_Mod_numberOf_62 : decode prog_10_method_32_code 62 = .ok (.iload 4, 2) := by decide +kernel
theorem dc_Mod_numberOf_64 : decode prog_10_method_32_code 64 = .ok (.invokevirtual 187, 3) := by decide +kernel
theorem dc_Mod_numberOf_67 : decode prog_10_method_32_code 67 = .ok (.bipush 57, 2) := by decide +kernel
theorem dc_Mod_numberOf_69 : decode prog_10_method_32_code 69 = .ok (.if_icmp .gt 25, 3) := by decide +kernel
theorem dc_Mod_numberOf_72 : decode prog_10_method_32_code 72 = .ok (.bipush 10, 2) := by decide +kernel
theorem dc_Mod_numberOf_74 : decode prog_10_method_32_code 74 = .ok (.iload_n 3, 1) := by decide +kernel
theorem dc_Mod_numberOf_75 : decode prog_10_method_32_code 75 = .ok (.imul, 1) := by decide +kernel
theorem dc_Mod_numberOf_76 : decode prog_10_method_32_code 76 = .ok (.aload_n 0, 1) := by decide +kernel
theorem dc_Mod_numberOf_77 : decode prog_10_method_32_code 77 = .ok (.iload_n 1, 1) := by decide +kernel
theorem dc_Mod_numberOf_78 : decode prog_10_method_32_code 78 = .ok (.iload 4, 2) := by decide +kernel
theorem dc_Mod_numberOf_80 : decode prog_10_method_32_code 80 = .ok (.invokevirtual 187, 3) := by decide +kernel
theorem dc_Mod_numberOf_83 : decode prog_10_method_32_code 83 = .ok (.iadd, 1) := by decide +kernel
theorem dc_Mod_numberOf_84 : decode prog_10_method_32_code 84 = .ok (.bipush 48, 2) := by decide +kernel
theorem dc_Mod_numberOf_86 : decode prog_10_method_32_code 86 = .ok (.isub, 1) := by decide +kernel
theorem dc_Mod_numberOf_87 : decode prog_10_method_32_code 87 = .ok (.istore_n 3, 1) := by decide +kernel
theorem dc_Mod_numberOf_88 : decode prog_10_method_32_code 88 = .ok (.iinc 4 1, 3) := by decide +kernel
theorem dc_Mod_numberOf_91 : decode prog_10_method_32_code 91 = .ok (.goto (-53), 3) := by decide +kernel
theorem dc_Mod_numberOf_94 : decode prog_10_method_32_code 94 = .ok (.iload_n 2, 1) := by decide +kernel
theorem dc_Mod_numberOf_95 : decode prog_10_method_32_code 95 = .ok (.ifCond .eq 9, 3) := by decide +kernel
theorem dc_Mod_numberOf_98 : decode prog_10_method_32_code 98 = .ok (.iconst 0, 1) := by decide +kernel
theorem dc_Mod_numberOf_99 : decode prog_10_method_32_code 99 = .ok (.iload_n 3, 1) := by decide +kernel
theorem dc_Mod_numberOf_100 : decode prog_10_method_32_code 100 = .ok (.isub, 1) := by decide +kernel
theorem dc_Mod_numberOf_101 : decode prog_10_method_32_code 101 = .ok (.goto 4, 3) := by decide +kernel
theorem dc_Mod_numberOf_104 : decode prog_10_method_32_code 104 = .ok (.iload_n 3, 1) := by decide +kernel
theorem dc_Mod_numberOf_105 : decode prog_10_method_32_code 105 = .ok (.ireturn, 1) := by decide +kernel
theorem dc_Mod_put_0 : decode prog_10_method_33_code 0 = .ok (.aload_n 0, 1) := by decide +kernel
theorem dc_Mod_put_1 : decode prog_10_method_33_code 1 = .ok (.getfield 65, 3) := by decide +kernel
theorem dc_Mod_put_4 : decode prog_10_method_33_code 4 = .ok (.aload_n 0, 1) := by decide +kernel
theorem dc_Mod_put_5 : decode prog_10_method_33_code 5 = .ok (.getfield 190, 3) := by decide +kernel
theorem dc_Mod_put_8 : decode prog_10_method_33_code 8 = .ok (.sipush 1500, 3) := by decide +kernel
theorem dc_Mod_put_11 : decode prog_10_method_33_code 11 = .ok (.irem, 1) := by decide +kernel
theorem dc_Mod_put_12 : decode prog_10_method_33_code 12 = .ok (.iload_n 1, 1) := by decide +kernel
theorem dc_Mod_put_13 : decode prog_10_method_33_code 13 = .ok (.iastore, 1) := by decide +kernel
theorem dc_Mod_put_14 : decode prog_10_method_33_code 14 = .ok (.aload_n 0, 1) := by decide +kernel
theorem dc_Mod_put_15 : decode prog_10_method_33_code 15 = .ok (.dup, 1) := by decide +kernel
theorem dc_Mod_put_16 : decode prog_10_method_33_code 16 = .ok (.getfield 190, 3) := by decide +kernel
theorem dc_Mod_put_19 : decode prog_10_method_33_code 19 = .ok (.iconst 1, 1) := by decide +kernel
theorem dc_Mod_put_20 : decode prog_10_method_33_code 20 = .ok (.iadd, 1) := by decide +kernel
theorem dc_Mod_put_21 : decode prog_10_method_33_code 21 = .ok (.putfield 190, 3) := by decide +kernel
theorem dc_Mod_put_24 : decode prog_10_method_33_code 24 = .ok (.return_, 1) := by decide +kernel
theorem dc_Mod_spell_0 : decode prog_10_method_34_code 0 = .ok (.iload_n 1, 1) := by decide +kernel
theorem dc_Mod_spell_1 : decode prog_10_method_34_code 1 = .ok (.ifCond .ge 10, 3) := by decide +kernel
theorem dc_Mod_spell_4 : decode prog_10_method_34_code 4 = .ok (.lconst 0, 1) := by decide +kernel
theorem dc_Mod_spell_5 : decode prog_10_method_34_code 5 = .ok (.iload_n 1, 1) := by decide +kernel
theorem dc_Mod_spell_6 : decode prog_10_method_34_code 6 = .ok (.i2l, 1) := by decide +kernel
theorem dc_Mod_spell_7 : decode prog_10_method_34_code 7 = .ok (.lsub, 1) := by decide +kernel
theorem dc_Mod_spell_8 : decode prog_10_method_34_code 8 = .ok (.goto 5, 3) := by decide +kernel
theorem dc_Mod_spell_11 : decode prog_10_method_34_code 11 = .ok (.iload_n 1, 1) := by decide +kernel
theorem dc_Mod_spell_12 : decode prog_10_method_34_code 12 = .ok (.i2l, 1) := by decide +kernel
theorem dc_Mod_spell_13 : decode prog_10_method_34_code 13 = .ok (.lstore_n 2, 1) := by decide +kernel
theorem dc_Mod_spell_14 : decode prog_10_method_34_code 14 = .ok (.iconst 1, 1) := by decide +kernel
theorem dc_Mod_spell_15 : decode prog_10_method_34_code 15 = .ok (.istore 4, 2) := by decide +kernel
theorem dc_Mod_spell_17 : decode prog_10_method_34_code 17 = .ok (.lload_n 2, 1) := by decide +kernel
theorem dc_Mod_spell_18 : decode prog_10_method_34_code 18 = .ok (.lstore 5, 2) := by decide +kernel
theorem dc_Mod_spell_20 : decode prog_10_method_34_code 20 = .ok (.lload 5, 2) := by decide +kernel
theorem dc_Mod_spell_22 : decode prog_10_method_34_code 22 = .ok (.ldc2_w 193, 3) := by decide +kernel
theorem dc_Mod_spell_25 : decode prog_10_method_34_code 25 = .ok (.lcmp, 1) := by decide +kernel
theorem dc_Mod_spell_26 : decode prog_10_method_34_code 26 = .ok (.ifCond .le 17, 3) := by decide +kernel
theorem dc_Mod_spell_29 : decode prog_10_method_34_code 29 = .ok (.iinc 4 1, 3) := by decide +kernel
theorem dc_Mod_spell_32 : decode prog_10_method_34_code 32 = .ok (.lload 5, 2) := by decide +kernel
theorem dc_Mod_spell_34 : decode prog_10_method_34_code 34 = .ok (.ldc2_w 195, 3) := by decide +kernel
theorem dc_Mod_spell_37 : decode prog_10_method_34_code 37 = .ok (.ldiv, 1) := by decide +kernel
theorem dc_Mod_spell_38 : decode prog_10_method_34_code 38 = .ok (.lstore 5, 2) := by decide +kernel
theorem dc_Mod_spell_40 : decode prog_10_method_34_code 40 = .ok (.goto (-20), 3) := by decide +kernel
theorem dc_Mod_spell_43 : decode prog_10_method_34_code 43 = .ok (.iload_n 1, 1) := by decide +kernel
theorem dc_Mod_spell_44 : decode prog_10_method_34_code 44 = .ok (.ifCond .ge 10, 3) := by decide +kernel
theorem dc_Mod_spell_47 : decode prog_10_method_34_code 47 = .ok (.iload 4, 2) := by decide +kernel
theorem dc_Mod_spell_49 : decode prog_10_method_34_code 49 = .ok (.iconst 1, 1) := by decide +kernel
theorem dc_Mod_spell_50 : decode prog_10_method_34_code 50 = .ok (.iadd, 1) := by decide +kernel
theorem dc_Mod_spell_51 : decode prog_10_method_34_code 51 = .ok (.goto 5, 3) := by decide +kernel
theorem dc_Mod_spell_54 : decode prog_10_method_34_code 54 = .ok (.iload 4, 2) := by decide +kernel
theorem dc_Mod_spell_56 : decode prog_10_method_34_code 56 = .ok (.istore 5, 2) := by decide +kernel
theorem dc_Mod_spell_58 : decode prog_10_method_34_code 58 = .ok (.iload 5, 2) := by decide +kernel
theorem dc_Mod_spell_60 : decode prog_10_method_34_code 60 = .ok (.iconst 1, 1) := by decide +kernel
theorem dc_Mod_spell_61 : decode prog_10_method_34_code 61 = .ok (.isub, 1) := by decide +kernel
theorem dc_Mod_spell_62 : decode prog_10_method_34_code 62 = .ok (.istore 6, 2) := by decide +kernel
theorem dc_Mod_spell_64 : decode prog_10_method_34_code 64 = .ok (.iload 6, 2) := by decide +kernel
theorem dc_Mod_spell_66 : decode prog_10_method_34_code 66 = .ok (.iload 5, 2) := by decide +kernel
theorem dc_Mod_spell_68 : decode prog_10_method_34_code 68 = .ok (.iload 4, 2) := by decide +kernel
theorem dc_Mod_spell_70 : decode prog_10_method_34_code 70 = .ok (.isub, 1) := by decide +kernel
theorem dc_Mod_spell_71 : decode prog_10_method_34_code 71 = .ok (.if_icmp .lt 35, 3) := by decide +kernel
theorem dc_Mod_spell_74 : decode prog_10_method_34_code 74 = .ok (.aload_n 0, 1) := by decide +kernel
theorem dc_Mod_spell_75 : decode prog_10_method_34_code 75 = .ok (.getfield 7, 3) := by decide +kernel
theorem dc_Mod_spell_78 : decode prog_10_method_34_code 78 = .ok (.sipush 960, 3) := by decide +kernel
theorem dc_Mod_spell_81 : decode prog_10_method_34_code 81 = .ok (.iload 6, 2) := by decide +kernel
theorem dc_Mod_spell_83 : decode prog_10_method_34_code 83 = .ok (.iadd, 1) := by decide +kernel
theorem dc_Mod_spell_84 : decode prog_10_method_34_code 84 = .ok (.lload_n 2, 1) := by decide +kernel
theorem dc_Mod_spell_85 : decode prog_10_method_34_code 85 = .ok (.ldc2_w 195, 3) := by decide +kernel
theorem dc_Mod_spell_88 : decode prog_10_method_34_code 88 = .ok (.lrem, 1) := by decide +kernel
theorem dc_Mod_spell_89 : decode prog_10_method_34_code 89 = .ok (.l2i, 1) := by decide +kernel
theorem dc_Mod_spell_90 : decode prog_10_method_34_code 90 = .ok (.bipush 48, 2) := by decide +kernel
theorem dc_Mod_spell_92 : decode prog_10_method_34_code 92 = .ok (.iadd, 1) := by decide +kernel
theorem dc_Mod_spell_93 : decode prog_10_method_34_code 93 = .ok (.iastore, 1) := by decide +kernel
theorem dc_Mod_spell_94 : decode prog_10_method_34_code 94 = .ok (.lload_n 2, 1) := by decide +kernel
theorem dc_Mod_spell_95 : decode prog_10_method_34_code 95 = .ok (.ldc2_w 195, 3) := by decide +kernel
theorem dc_Mod_spell_98 : decode prog_10_method_34_code 98 = .ok (.ldiv, 1) := by decide +kernel
theorem dc_Mod_spell_99 : decode prog_10_method_34_code 99 = .ok (.lstore_n 2, 1) := by decide +kernel
theorem dc_Mod_spell_100 : decode prog_10_method_34_code 100 = .ok (.iinc 6 (-1), 3) := by decide +kernel
theorem dc_Mod_spell_103 : decode prog_10_method_34_code 103 = .ok (.goto (-39), 3) := by decide +kernel
theorem dc_Mod_spell_106 : decode prog_10_method_34_code 106 = .ok (.iload_n 1, 1) := by decide +kernel
theorem dc_Mod_spell_107 : decode prog_10_method_34_code 107 = .ok (.ifCond .ge 13, 3) := by decide +kernel
theorem dc_Mod_spell_110 : decode prog_10_method_34_code 110 = .ok (.aload_n 0, 1) := by decide +kernel
theorem dc_Mod_spell_111 : decode prog_10_method_34_code 111 = .ok (.getfield 7, 3) := by decide +kernel
theorem dc_Mod_spell_114 : decode prog_10_method_34_code 114 = .ok (.sipush 960, 3) := by decide +kernel
theorem dc_Mod_spell_117 : decode prog_10_method_34_code 117 = .ok (.bipush 45, 2) := by decide +kernel
theorem dc_Mod_spell_119 : decode prog_10_method_34_code 119 = .ok (.iastore, 1) := by decide +kernel
theorem dc_Mod_spell_120 : decode prog_10_method_34_code 120 = .ok (.aload_n 0, 1) := by decide +kernel
theorem dc_Mod_spell_121 : decode prog_10_method_34_code 121 = .ok (.getfield 13, 3) := by decide +kernel
theorem dc_Mod_spell_124 : decode prog_10_method_34_code 124 = .ok (.bipush 8, 2) := by decide +kernel
theorem dc_Mod_spell_126 : decode prog_10_method_34_code 126 = .ok (.iload 5, 2) := by decide +kernel
theorem dc_Mod_spell_128 : decode prog_10_method_34_code 128 = .ok (.iastore, 1) := by decide +kernel
theorem dc_Mod_spell_129 : decode prog_10_method_34_code 129 = .ok (.return_, 1) := by decide +kernel
theorem dc_Mod_printRow_0 : decode prog_10_method_35_code 0 = .ok (.iload_n 2, 1) := by decide +kernel
theorem dc_Mod_printRow_1 : decode prog_10_method_35_code 1 = .ok (.istore 4, 2) := by decide +kernel
theorem dc_Mod_printRow_3 : decode prog_10_method_35_code 3 = .ok (.iload 4, 2) := by decide +kernel
theorem dc_Mod_printRow_5 : decode prog_10_method_35_code 5 = .ok (.iload_n 3, 1) := by decide +kernel
theorem dc_Mod_printRow_6 : decode prog_10_method_35_code 6 = .ok (.if_icmp .ge 25, 3) := by decide +kernel
theorem dc_Mod_printRow_9 : decode prog_10_method_35_code 9 = .ok (.aload_n 0, 1) := by decide +kernel
theorem dc_Mod_printRow_10 : decode prog_10_method_35_code 10 = .ok (.aload_n 0, 1) := by decide +kernel
theorem dc_Mod_printRow_11 : decode prog_10_method_35_code 11 = .ok (.getfield 7, 3) := by decide +kernel
theorem dc_Mod_printRow_14 : decode prog_10_method_35_code 14 = .ok (.bipush 120, 2) := by decide +kernel
theorem dc_Mod_printRow_16 : decode prog_10_method_35_code 16 = .ok (.iload_n 1, 1) := by decide +kernel
theorem dc_Mod_printRow_17 : decode prog_10_method_35_code 17 = .ok (.imul, 1) := by decide +kernel
theorem dc_Mod_printRow_18 : decode prog_10_method_35_code 18 = .ok (.iload 4, 2) := by decide +kernel
theorem dc_Mod_printRow_20 : decode prog_10_method_35_code 20 = .ok (.iadd, 1) := by decide +kernel
theorem dc_Mod_printRow_21 : decode prog_10_method_35_code 21 = .ok (.iaload, 1) := by decide +kernel
theorem dc_Mod_printRow_22 : decode prog_10_method_35_code 22 = .ok (.invokevirtual 197, 3) := by decide +kernel
theorem dc_Mod_printRow_25 : decode prog_10_method_35_code 25 = .ok (.iinc 4 1, 3) := by decide +kernel
theorem dc_Mod_printRow_28 : decode prog_10_method_35_code 28 = .ok (.goto (-25), 3) := by decide +kernel
theorem dc_Mod_printRow_31 : decode prog_10_method_35_code 31 = .ok (.aload_n 0, 1) := by decide +kernel
theorem dc_Mod_printRow_32 : decode prog_10_method_35_code 32 = .ok (.bipush 10, 2) := by decide +kernel
theorem dc_Mod_printRow_34 : decode prog_10_method_35_code 34 = .ok (.invokevirtual 197, 3) := by decide +kernel
theorem dc_Mod_printRow_37 : decode prog_10_method_35_code 37 = .ok (.return_, 1) := by decide +kernel
theorem dc_Mod_compared_0 : decode prog_10_method_36_code 0 = .ok (.aload_n 0, 1) := by decide +kernel
theorem dc_Mod_compared_1 : decode prog_10_method_36_code 1 = .ok (.iload_n 1, 1) := by decide +kernel
theorem dc_Mod_compared_2 : decode prog_10_method_36_code 2 = .ok (.invokevirtual 184, 3) := by decide +kernel
theorem dc_Mod_compared_5 : decode prog_10_method_36_code 5 = .ok (.istore_n 3, 1) := by decide +kernel
theorem dc_Mod_compared_6 : decode prog_10_method_36_code 6 = .ok (.iconst 0, 1) := by decide +kernel
theorem dc_Mod_compared_7 : decode prog_10_method_36_code 7 = .ok (.istore 4, 2) := by decide +kernel
theorem dc_Mod_compared_9 : decode prog_10_method_36_code 9 = .ok (.iload 4, 2) := by decide +kernel
theorem dc_Mod_compared_11 : decode prog_10_method_36_code 11 = .ok (.iload_n 3, 1) := by decide +kernel
theorem dc_Mod_compared_12 : decode prog_10_method_36_code 12 = .ok (.if_icmp .ge 63, 3) := by decide +kernel
theorem dc_Mod_compared_15 : decode prog_10_method_36_code 15 = .ok (.iload 4, 2) := by decide +kernel
theorem dc_Mod_compared_17 : decode prog_10_method_36_code 17 = .ok (.aload_n 0, 1) := by decide +kernel
theorem dc_Mod_compared_18 : decode prog_10_method_36_code 18 = .ok (.getfield 59, 3) := by decide +kernel
theorem dc_Mod_compared_21 : decode prog_10_method_36_code 21 = .ok (.iload_n 2, 1) := by decide +kernel
theorem dc_Mod_compared_22 : decode prog_10_method_36_code 22 = .ok (.iaload, 1) := by decide +kernel
theorem dc_Mod_compared_23 : decode prog_10_method_36_code 23 = .ok (.if_icmp .ge 52, 3) := by decide +kernel
theorem dc_Mod_compared_26 : decode prog_10_method_36_code 26 = .ok (.aload_n 0, 1) := by decide +kernel
theorem dc_Mod_compared_27 : decode prog_10_method_36_code 27 = .ok (.iload_n 1, 1) := by decide +kernel
theorem dc_Mod_compared_28 : decode prog_10_method_36_code 28 = .ok (.iload 4, 2) := by decide +kernel
theorem dc_Mod_compared_30 : decode prog_10_method_36_code 30 = .ok (.invokevirtual 187, 3) := by decide +kernel
theorem dc_Mod_compared_33 : decode prog_10_method_36_code 33 = .ok (.istore 5, 2) := by decide +kernel
theorem dc_Mod_compared_35 : decode prog_10_method_36_code 35 = .ok (.aload_n 0, 1) := by decide +kernel
theorem dc_Mod_compared_36 : decode prog_10_method_36_code 36 = .ok (.getfield 56, 3) := by decide +kernel
theorem dc_Mod_compared_39 : decode prog_10_method_36_code 39 = .ok (.bipush 120, 2) := by decide +kernel
theorem dc_Mod_compared_41 : decode prog_10_method_36_code 41 = .ok (.iload_n 2, 1) := by decide +kernel
theorem dc_Mod_compared_42 : decode prog_10_method_36_code 42 = .ok (.imul, 1) := by decide +kernel
theorem dc_Mod_compared_43 : decode prog_10_method_36_code 43 = .ok (.iload 4, 2) := by decide +kernel
theorem dc_Mod_compared_45 : decode prog_10_method_36_code 45 = .ok (.iadd, 1) := by decide +kernel
theorem dc_Mod_compared_46 : decode prog_10_method_36_code 46 = .ok (.iaload, 1) := by decide +kernel
theorem dc_Mod_compared_47 : decode prog_10_method_36_code 47 = .ok (.istore 6, 2) := by decide +kernel
theorem dc_Mod_compared_49 : decode prog_10_method_36_code 49 = .ok (.iload 5, 2) := by decide +kernel
theorem dc_Mod_compared_51 : decode prog_10_method_36_code 51 = .ok (.iload 6, 2) := by decide +kernel
theorem dc_Mod_compared_53 : decode prog_10_method_36_code 53 = .ok (.if_icmp .eq 16, 3) := by decide +kernel
theorem dc_Mod_compared_56 : decode prog_10_method_36_code 56 = .ok (.iload 5, 2) := by decide +kernel
theorem dc_Mod_compared_58 : decode prog_10_method_36_code 58 = .ok (.iload 6, 2) := by decide +kernel
theorem dc_Mod_compared_60 : decode prog_10_method_36_code 60 = .ok (.if_icmp .ge 7, 3) := by decide +kernel
theorem dc_Mod_compared_63 : decode prog_10_method_36_code 63 = .ok (.iconst (-1), 1) := by decide +kernel
theorem dc_Mod_compared_64 : decode prog_10_method_36_code 64 = .ok (.goto 4, 3) := by decide +kernel
theorem dc_Mod_compared_67 : decode prog_10_method_36_code 67 = .ok (.iconst 1, 1) := by decide +kernel
theorem dc_Mod_compared_68 : decode prog_10_method_36_code 68 = .ok (.ireturn, 1) := by decide +kernel
theorem dc_Mod_compared_69 : decode prog_10_method_36_code 69 = .ok (.iinc 4 1, 3) := by decide +kernel
theorem dc_Mod_compared_72 : decode prog_10_method_36_code 72 = .ok (.goto (-63), 3) := by decide +kernel
theorem dc_Mod_compared_75 : decode prog_10_method_36_code 75 = .ok (.iload_n 3, 1) := by decide +kernel
theorem dc_Mod_compared_76 : decode prog_10_method_36_code 76 = .ok (.aload_n 0, 1) := by decide +kernel
theorem dc_Mod_compared_77 : decode prog_10_method_36_code 77 = .ok (.getfield 59, 3) := by decide +kernel
theorem dc_Mod_compared_80 : decode prog_10_method_36_code 80 = .ok (.iload_n 2, 1) := by decide +kernel
theorem dc_Mod_compared_81 : decode prog_10_method_36_code 81 = .ok (.iaload, 1) := by decide +kernel
theorem dc_Mod_compared_82 : decode prog_10_method_36_code 82 = .ok (.if_icmp .ge 7, 3) := by decide +kernel
theorem dc_Mod_compared_85 : decode prog_10_method_36_code 85 = .ok (.iconst (-1), 1) := by decide +kernel
theorem dc_Mod_compared_86 : decode prog_10_method_36_code 86 = .ok (.goto 18, 3) := by decide +kernel
theorem dc_Mod_compared_89 : decode prog_10_method_36_code 89 = .ok (.iload_n 3, 1) := by decide +kernel
theorem dc_Mod_compared_90 : decode prog_10_method_36_code 90 = .ok (.aload_n 0, 1) := by decide +kernel
theorem dc_Mod_compared_91 : decode prog_10_method_36_code 91 = .ok (.getfield 59, 3) := by decide +kernel
theorem dc_Mod_compared_94 : decode prog_10_method_36_code 94 = .ok (.iload_n 2, 1) := by decide +kernel
theorem dc_Mod_compared_95 : decode prog_10_method_36_code 95 = .ok (.iaload, 1) := by decide +kernel
theorem dc_Mod_compared_96 : decode prog_10_method_36_code 96 = .ok (.if_icmp .le 7, 3) := by decide +kernel
theorem dc_Mod_compared_99 : decode prog_10_method_36_code 99 = .ok (.iconst 1, 1) := by decide +kernel
theorem dc_Mod_compared_100 : decode prog_10_method_36_code 100 = .ok (.goto 4, 3) := by decide +kernel
theorem dc_Mod_compared_103 : decode prog_10_method_36_code 103 = .ok (.iconst 0, 1) := by decide +kernel
theorem dc_Mod_compared_104 : decode prog_10_method_36_code 104 = .ok (.ireturn, 1) := by decide +kernel
