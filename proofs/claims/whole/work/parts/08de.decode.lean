theorem dc_Mod_init_0 : decode prog_10_method_1_code 0 = .ok (.aload_n 0, 1) := by decide +kernel
theorem dc_Mod_init_1 : decode prog_10_method_1_code 1 = .ok (.invokespecial 1, 3) := by decide +kernel
theorem dc_Mod_init_4 : decode prog_10_method_1_code 4 = .ok (.aload_n 0, 1) := by decide +kernel
theorem dc_Mod_init_5 : decode prog_10_method_1_code 5 = .ok (.sipush 1080, 3) := by decide +kernel
theorem dc_Mod_init_8 : decode prog_10_method_1_code 8 = .ok (.newarray .int, 2) := by decide +kernel
theorem dc_Mod_init_10 : decode prog_10_method_1_code 10 = .ok (.putfield 7, 3) := by decide +kernel
theorem dc_Mod_init_13 : decode prog_10_method_1_code 13 = .ok (.aload_n 0, 1) := by decide +kernel
theorem dc_Mod_init_14 : decode prog_10_method_1_code 14 = .ok (.bipush 9, 2) := by decide +kernel
theorem dc_Mod_init_16 : decode prog_10_method_1_code 16 = .ok (.newarray .int, 2) := by decide +kernel
theorem dc_Mod_init_18 : decode prog_10_method_1_code 18 = .ok (.putfield 13, 3) := by decide +kernel
theorem dc_Mod_init_21 : decode prog_10_method_1_code 21 = .ok (.aload_n 0, 1) := by decide +kernel
theorem dc_Mod_init_22 : decode prog_10_method_1_code 22 = .ok (.sipush 360, 3) := by decide +kernel
theorem dc_Mod_init_25 : decode prog_10_method_1_code 25 = .ok (.newarray .int, 2) := by decide +kernel
theorem dc_Mod_init_27 : decode prog_10_method_1_code 27 = .ok (.putfield 16, 3) := by decide +kernel
theorem dc_Mod_init_30 : decode prog_10_method_1_code 30 = .ok (.aload_n 0, 1) := by decide +kernel
theorem dc_Mod_init_31 : decode prog_10_method_1_code 31 = .ok (.bipush 6, 2) := by decide +kernel
theorem dc_Mod_init_33 : decode prog_10_method_1_code 33 = .ok (.newarray .int, 2) := by decide +kernel
theorem dc_Mod_init_35 : decode prog_10_method_1_code 35 = .ok (.putfield 19, 3) := by decide +kernel
theorem dc_Mod_init_38 : decode prog_10_method_1_code 38 = .ok (.aload_n 0, 1) := by decide +kernel
theorem dc_Mod_init_39 : decode prog_10_method_1_code 39 = .ok (.bipush 32, 2) := by decide +kernel
theorem dc_Mod_init_41 : decode prog_10_method_1_code 41 = .ok (.putfield 22, 3) := by decide +kernel
theorem dc_Mod_init_44 : decode prog_10_method_1_code 44 = .ok (.aload_n 0, 1) := by decide +kernel
theorem dc_Mod_init_45 : decode prog_10_method_1_code 45 = .ok (.bipush 12, 2) := by decide +kernel
theorem dc_Mod_init_47 : decode prog_10_method_1_code 47 = .ok (.newarray .int, 2) := by decide +kernel
theorem dc_Mod_init_49 : decode prog_10_method_1_code 49 = .ok (.putfield 26, 3) := by decide +kernel
theorem dc_Mod_init_52 : decode prog_10_method_1_code 52 = .ok (.aload_n 0, 1) := by decide +kernel
theorem dc_Mod_init_53 : decode prog_10_method_1_code 53 = .ok (.bipush 12, 2) := by decide +kernel
theorem dc_Mod_init_55 : decode prog_10_method_1_code 55 = .ok (.newarray .int, 2) := by decide +kernel
theorem dc_Mod_init_57 : decode prog_10_method_1_code 57 = .ok (.putfield 29, 3) := by decide +kernel
theorem dc_Mod_init_60 : decode prog_10_method_1_code 60 = .ok (.aload_n 0, 1) := by decide +kernel
theorem dc_Mod_init_61 : decode prog_10_method_1_code 61 = .ok (.bipush 12, 2) := by decide +kernel
theorem dc_Mod_init_63 : decode prog_10_method_1_code 63 = .ok (.newarray .int, 2) := by decide +kernel
theorem dc_Mod_init_65 : decode prog_10_method_1_code 65 = .ok (.putfield 32, 3) := by decide +kernel
theorem dc_Mod_init_68 : decode prog_10_method_1_code 68 = .ok (.aload_n 0, 1) := by decide +kernel
theorem dc_Mod_init_69 : decode prog_10_method_1_code 69 = .ok (.bipush 12, 2) := by decide +kernel
theorem dc_Mod_init_71 : decode prog_10_method_1_code 71 = .ok (.newarray .int, 2) := by decide +kernel
theorem dc_Mod_init_73 : decode prog_10_method_1_code 73 = .ok (.putfield 35, 3) := by decide +kernel
theorem dc_Mod_init_76 : decode prog_10_method_1_code 76 = .ok (.aload_n 0, 1) := by decide +kernel
theorem dc_Mod_init_77 : decode prog_10_method_1_code 77 = .ok (.bipush 120, 2) := by decide +kernel
theorem dc_Mod_init_79 : decode prog_10_method_1_code 79 = .ok (.newarray .int, 2) := by decide +kernel
theorem dc_Mod_init_81 : decode prog_10_method_1_code 81 = .ok (.putfield 38, 3) := by decide +kernel
theorem dc_Mod_init_84 : decode prog_10_method_1_code 84 = .ok (.aload_n 0, 1) := by decide +kernel
theorem dc_Mod_init_85 : decode prog_10_method_1_code 85 = .ok (.bipush 120, 2) := by decide +kernel
theorem dc_Mod_init_87 : decode prog_10_method_1_code 87 = .ok (.newarray .int, 2) := by decide +kernel
theorem dc_Mod_init_89 : decode prog_10_method_1_code 89 = .ok (.putfield 41, 3) := by decide +kernel
theorem dc_Mod_init_92 : decode prog_10_method_1_code 92 = .ok (.aload_n 0, 1) := by decide +kernel
theorem dc_Mod_init_93 : decode prog_10_method_1_code 93 = .ok (.bipush 120, 2) := by decide +kernel
theorem dc_Mod_init_95 : decode prog_10_method_1_code 95 = .ok (.newarray .int, 2) := by decide +kernel
theorem dc_Mod_init_97 : decode prog_10_method_1_code 97 = .ok (.putfield 44, 3) := by decide +kernel
theorem dc_Mod_init_100 : decode prog_10_method_1_code 100 = .ok (.aload_n 0, 1) := by decide +kernel
theorem dc_Mod_init_101 : decode prog_10_method_1_code 101 = .ok (.sipush 3600, 3) := by decide +kernel
theorem dc_Mod_init_104 : decode prog_10_method_1_code 104 = .ok (.newarray .int, 2) := by decide +kernel
theorem dc_Mod_init_106 : decode prog_10_method_1_code 106 = .ok (.putfield 47, 3) := by decide +kernel
theorem dc_Mod_init_109 : decode prog_10_method_1_code 109 = .ok (.aload_n 0, 1) := by decide +kernel
theorem dc_Mod_init_110 : decode prog_10_method_1_code 110 = .ok (.bipush 30, 2) := by decide +kernel
theorem dc_Mod_init_112 : decode prog_10_method_1_code 112 = .ok (.newarray .int, 2) := by decide +kernel
theorem dc_Mod_init_114 : decode prog_10_method_1_code 114 = .ok (.putfield 50, 3) := by decide +kernel
theorem dc_Mod_init_117 : decode prog_10_method_1_code 117 = .ok (.aload_n 0, 1) := by decide +kernel
theorem dc_Mod_init_118 : decode prog_10_method_1_code 118 = .ok (.bipush 8, 2) := by decide +kernel
theorem dc_Mod_init_120 : decode prog_10_method_1_code 120 = .ok (.newarray .int, 2) := by decide +kernel
theorem dc_Mod_init_122 : decode prog_10_method_1_code 122 = .ok (.putfield 53, 3) := by decide +kernel
theorem dc_Mod_init_125 : decode prog_10_method_1_code 125 = .ok (.aload_n 0, 1) := by decide +kernel
theorem dc_Mod_init_126 : decode prog_10_method_1_code 126 = .ok (.sipush 4800, 3) := by decide +kernel
theorem dc_Mod_init_129 : decode prog_10_method_1_code 129 = .ok (.newarray .int, 2) := by decide +kernel
theorem dc_Mod_init_131 : decode prog_10_method_1_code 131 = .ok (.putfield 56, 3) := by decide +kernel
theorem dc_Mod_init_134 : decode prog_10_method_1_code 134 = .ok (.aload_n 0, 1) := by decide +kernel
theorem dc_Mod_init_135 : decode prog_10_method_1_code 135 = .ok (.bipush 40, 2) := by decide +kernel
theorem dc_Mod_init_137 : decode prog_10_method_1_code 137 = .ok (.newarray .int, 2) := by decide +kernel
theorem dc_Mod_init_139 : decode prog_10_method_1_code 139 = .ok (.putfield 59, 3) := by decide +kernel
theorem dc_Mod_init_142 : decode prog_10_method_1_code 142 = .ok (.aload_n 0, 1) := by decide +kernel
theorem dc_Mod_init_143 : decode prog_10_method_1_code 143 = .ok (.bipush 40, 2) := by decide +kernel
theorem dc_Mod_init_145 : decode prog_10_method_1_code 145 = .ok (.newarray .int, 2) := by decide +kernel
theorem dc_Mod_init_147 : decode prog_10_method_1_code 147 = .ok (.putfield 62, 3) := by decide +kernel
theorem dc_Mod_init_150 : decode prog_10_method_1_code 150 = .ok (.aload_n 0, 1) := by decide +kernel
theorem dc_Mod_init_151 : decode prog_10_method_1_code 151 = .ok (.sipush 1500, 3) := by decide +kernel
theorem dc_Mod_init_154 : decode prog_10_method_1_code 154 = .ok (.newarray .int, 2) := by decide +kernel
theorem dc_Mod_init_156 : decode prog_10_method_1_code 156 = .ok (.putfield 65, 3) := by decide +kernel
theorem dc_Mod_init_159 : decode prog_10_method_1_code 159 = .ok (.aload_n 0, 1) := by decide +kernel
theorem dc_Mod_init_160 : decode prog_10_method_1_code 160 = .ok (.iconst (-1), 1) := by decide +kernel
theorem dc_Mod_init_161 : decode prog_10_method_1_code 161 = .ok (.putfield 68, 3) := by decide +kernel
theorem dc_Mod_init_164 : decode prog_10_method_1_code 164 = .ok (.aload_n 0, 1) := by decide +kernel
theorem dc_Mod_init_165 : decode prog_10_method_1_code 165 = .ok (.sipush 800, 3) := by decide +kernel
theorem dc_Mod_init_168 : decode prog_10_method_1_code 168 = .ok (.newarray .int, 2) := by decide +kernel
theorem dc_Mod_init_170 : decode prog_10_method_1_code 170 = .ok (.putfield 71, 3) := by decide +kernel
theorem dc_Mod_init_173 : decode prog_10_method_1_code 173 = .ok (.aload_n 0, 1) := by decide +kernel
theorem dc_Mod_init_174 : decode prog_10_method_1_code 174 = .ok (.sipush 800, 3) := by decide +kernel
theorem dc_Mod_init_177 : decode prog_10_method_1_code 177 = .ok (.newarray .int, 2) := by decide +kernel
theorem dc_Mod_init_179 : decode prog_10_method_1_code 179 = .ok (.putfield 74, 3) := by decide +kernel
theorem dc_Mod_init_182 : decode prog_10_method_1_code 182 = .ok (.aload_n 0, 1) := by decide +kernel
theorem dc_Mod_init_183 : decode prog_10_method_1_code 183 = .ok (.sipush 800, 3) := by decide +kernel
theorem dc_Mod_init_186 : decode prog_10_method_1_code 186 = .ok (.newarray .int, 2) := by decide +kernel
theorem dc_Mod_init_188 : decode prog_10_method_1_code 188 = .ok (.putfield 77, 3) := by decide +kernel
theorem dc_Mod_init_191 : decode prog_10_method_1_code 191 = .ok (.aload_n 0, 1) := by decide +kernel
theorem dc_Mod_init_192 : decode prog_10_method_1_code 192 = .ok (.sipush 800, 3) := by decide +kernel
theorem dc_Mod_init_195 : decode prog_10_method_1_code 195 = .ok (.newarray .int, 2) := by decide +kernel
theorem dc_Mod_init_197 : decode prog_10_method_1_code 197 = .ok (.putfield 80, 3) := by decide +kernel
theorem dc_Mod_init_200 : decode prog_10_method_1_code 200 = .ok (.aload_n 0, 1) := by decide +kernel
theorem dc_Mod_init_201 : decode prog_10_method_1_code 201 = .ok (.sipush 400, 3) := by decide +kernel
theorem dc_Mod_init_204 : decode prog_10_method_1_code 204 = .ok (.newarray .boolean, 2) := by decide +kernel
theorem dc_Mod_init_206 : decode prog_10_method_1_code 206 = .ok (.putfield 83, 3) := by decide +kernel
theorem dc_Mod_init_209 : decode prog_10_method_1_code 209 = .ok (.aload_n 0, 1) := by decide +kernel
theorem dc_Mod_init_210 : decode prog_10_method_1_code 210 = .ok (.sipush 400, 3) := by decide +kernel
theorem dc_Mod_init_213 : decode prog_10_method_1_code 213 = .ok (.newarray .boolean, 2) := by decide +kernel
theorem dc_Mod_init_215 : decode prog_10_method_1_code 215 = .ok (.putfield 87, 3) := by decide +kernel
theorem dc_Mod_init_218 : decode prog_10_method_1_code 218 = .ok (.aload_n 0, 1) := by decide +kernel
theorem dc_Mod_init_219 : decode prog_10_method_1_code 219 = .ok (.bipush 12, 2) := by decide +kernel
theorem dc_Mod_init_221 : decode prog_10_method_1_code 221 = .ok (.newarray .int, 2) := by decide +kernel
theorem dc_Mod_init_223 : decode prog_10_method_1_code 223 = .ok (.putfield 90, 3) := by decide +kernel
theorem dc_Mod_init_226 : decode prog_10_method_1_code 226 = .ok (.aload_n 0, 1) := by decide +kernel
theorem dc_Mod_init_227 : decode prog_10_method_1_code 227 = .ok (.bipush 12, 2) := by decide +kernel
theorem dc_Mod_init_229 : decode prog_10_method_1_code 229 = .ok (.newarray .int, 2) := by decide +kernel
theorem dc_Mod_init_231 : decode prog_10_method_1_code 231 = .ok (.putfield 93, 3) := by decide +kernel
theorem dc_Mod_init_234 : decode prog_10_method_1_code 234 = .ok (.aload_n 0, 1) := by decide +kernel
theorem dc_Mod_init_235 : decode prog_10_method_1_code 235 = .ok (.bipush 12, 2) := by decide +kernel
theorem dc_Mod_init_237 : decode prog_10_method_1_code 237 = .ok (.newarray .int, 2) := by decide +kernel
theorem dc_Mod_init_239 : decode prog_10_method_1_code 239 = .ok (.putfield 96, 3) := by decide +kernel
theorem dc_Mod_init_242 : decode prog_10_method_1_code 242 = .ok (.return_, 1) := by decide +kernel
theorem dc_Mod_thrown_0 : decode prog_10_method_2_code 0 = .ok (.aload_n 0, 1) := by decide +kernel
theorem dc_Mod_thrown_1 : decode prog_10_method_2_code 1 = .ok (.getfield 99, 3) := by decide +kernel
theorem dc_Mod_thrown_4 : decode prog_10_method_2_code 4 = .ok (.ireturn, 1) := by decide +kernel
theorem dc_Mod_goes_0 : decode prog_10_method_3_code 0 = .ok (.aload_n 0, 1) := by decide +kernel
theorem dc_Mod_goes_1 : decode prog_10_method_3_code 1 = .ok (.iload_n 1, 1) := by decide +kernel
theorem dc_Mod_goes_2 : decode prog_10_method_3_code 2 = .ok (.ifCond .ne 7, 3) := by decide +kernel
theorem dc_Mod_goes_5 : decode prog_10_method_3_code 5 = .ok (.iconst 1, 1) := by decide +kernel
theorem dc_Mod_goes_6 : decode prog_10_method_3_code 6 = .ok (.goto 12, 3) := by decide +kernel
theorem dc_Mod_goes_9 : decode prog_10_method_3_code 9 = .ok (.iload_n 2, 1) := by decide +kernel
theorem dc_Mod_goes_10 : decode prog_10_method_3_code 10 = .ok (.ifCond .ne 7, 3) := by decide +kernel
theorem dc_Mod_goes_13 : decode prog_10_method_3_code 13 = .ok (.iconst 2, 1) := by decide +kernel
theorem dc_Mod_goes_14 : decode prog_10_method_3_code 14 = .ok (.goto 4, 3) := by decide +kernel
theorem dc_Mod_goes_17 : decode prog_10_method_3_code 17 = .ok (.iconst 0, 1) := by decide +kernel
theorem dc_Mod_goes_18 : decode prog_10_method_3_code 18 = .ok (.putfield 99, 3) := by decide +kernel
theorem dc_Mod_goes_21 : decode prog_10_method_3_code 21 = .ok (.aload_n 0, 1) := by decide +kernel
theorem dc_Mod_goes_22 : decode prog_10_method_3_code 22 = .ok (.getfield 99, 3) := by decide +kernel
theorem dc_Mod_goes_25 : decode prog_10_method_3_code 25 = .ok (.ifCond .ne 7, 3) := by decide +kernel
theorem dc_Mod_goes_28 : decode prog_10_method_3_code 28 = .ok (.iconst 1, 1) := by decide +kernel
theorem dc_Mod_goes_29 : decode prog_10_method_3_code 29 = .ok (.goto 4, 3) := by decide +kernel
theorem dc_Mod_goes_32 : decode prog_10_method_3_code 32 = .ok (.iconst 0, 1) := by decide +kernel
theorem dc_Mod_goes_33 : decode prog_10_method_3_code 33 = .ok (.ireturn, 1) := by decide +kernel
theorem dc_Mod_within_0 : decode prog_10_method_4_code 0 = .ok (.iload_n 0, 1) := by decide +kernel
theorem dc_Mod_within_1 : decode prog_10_method_4_code 1 = .ok (.iload_n 1, 1) := by decide +kernel
theorem dc_Mod_within_2 : decode prog_10_method_4_code 2 = .ok (.if_icmp .lt 12, 3) := by decide +kernel
theorem dc_Mod_within_5 : decode prog_10_method_4_code 5 = .ok (.iload_n 0, 1) := by decide +kernel
theorem dc_Mod_within_6 : decode prog_10_method_4_code 6 = .ok (.iload_n 2, 1) := by decide +kernel
theorem dc_Mod_within_7 : decode prog_10_method_4_code 7 = .ok (.if_icmp .gt 7, 3) := by decide +kernel
theorem dc_Mod_within_10 : decode prog_10_method_4_code 10 = .ok (.iconst 1, 1) := by decide +kernel
theorem dc_Mod_within_11 : decode prog_10_method_4_code 11 = .ok (.goto 4, 3) := by decide +kernel
theorem dc_Mod_within_14 : decode prog_10_method_4_code 14 = .ok (.iconst 0, 1) := by decide +kernel
theorem dc_Mod_within_15 : decode prog_10_method_4_code 15 = .ok (.ireturn, 1) := by decide +kernel
theorem dc_Mod_signsOf_0 : decode prog_10_method_5_code 0 = .ok (.iconst 0, 1) := by decide +kernel
theorem dc_Mod_signsOf_1 : decode prog_10_method_5_code 1 = .ok (.istore_n 1, 1) := by decide +kernel
theorem dc_Mod_signsOf_2 : decode prog_10_method_5_code 2 = .ok (.iconst 0, 1) := by decide +kernel
theorem dc_Mod_signsOf_3 : decode prog_10_method_5_code 3 = .ok (.istore_n 2, 1) := by decide +kernel
theorem dc_Mod_signsOf_4 : decode prog_10_method_5_code 4 = .ok (.iload_n 2, 1) := by decide +kernel
theorem dc_Mod_signsOf_5 : decode prog_10_method_5_code 5 = .ok (.iconst 4, 1) := by decide +kernel
theorem dc_Mod_signsOf_6 : decode prog_10_method_5_code 6 = .ok (.if_icmp .ge 30, 3) := by decide +kernel
theorem dc_Mod_signsOf_9 : decode prog_10_method_5_code 9 = .ok (.iload_n 0, 1) := by decide +kernel
theorem dc_Mod_signsOf_10 : decode prog_10_method_5_code 10 = .ok (.bipush 8, 2) := by decide +kernel
theorem dc_Mod_signsOf_12 : decode prog_10_method_5_code 12 = .ok (.iload_n 2, 1) := by decide +kernel
theorem dc_Mod_signsOf_13 : decode prog_10_method_5_code 13 = .ok (.imul, 1) := by decide +kernel
theorem dc_Mod_signsOf_14 : decode prog_10_method_5_code 14 = .ok (.iushr, 1) := by decide +kernel
theorem dc_Mod_signsOf_15 : decode prog_10_method_5_code 15 = .ok (.sipush 255, 3) := by decide +kernel
theorem dc_Mod_signsOf_18 : decode prog_10_method_5_code 18 = .ok (.iand, 1) := by decide +kernel
theorem dc_Mod_signsOf_19 : decode prog_10_method_5_code 19 = .ok (.ifCond .ne 7, 3) := by decide +kernel
theorem dc_Mod_signsOf_22 : decode prog_10_method_5_code 22 = .ok (.iload_n 1, 1) := by decide +kernel
theorem dc_Mod_signsOf_23 : decode prog_10_method_5_code 23 = .ok (.goto 6, 3) := by decide +kernel
theorem dc_Mod_signsOf_26 : decode prog_10_method_5_code 26 = .ok (.iload_n 1, 1) := by decide +kernel
theorem dc_Mod_signsOf_27 : decode prog_10_method_5_code 27 = .ok (.iconst 1, 1) := by decide +kernel
theorem dc_Mod_signsOf_28 : decode prog_10_method_5_code 28 = .ok (.iadd, 1) := by decide +kernel
theorem dc_Mod_signsOf_29 : decode prog_10_method_5_code 29 = .ok (.istore_n 1, 1) := by decide +kernel
theorem dc_Mod_signsOf_30 : decode prog_10_method_5_code 30 = .ok (.iinc 2 1, 3) := by decide +kernel
theorem dc_Mod_signsOf_33 : decode prog_10_method_5_code 33 = .ok (.goto (-29), 3) := by decide +kernel
theorem dc_Mod_signsOf_36 : decode prog_10_method_5_code 36 = .ok (.iload_n 1, 1) := by decide +kernel
theorem dc_Mod_signsOf_37 : decode prog_10_method_5_code 37 = .ok (.ireturn, 1) := by decide +kernel
theorem dc_Mod_feedOne_0 : decode prog_10_method_6_code 0 = .ok (.iconst 0, 1) := by decide +kernel
theorem dc_Mod_feedOne_1 : decode prog_10_method_6_code 1 = .ok (.istore_n 2, 1) := by decide +kernel
theorem dc_Mod_feedOne_2 : decode prog_10_method_6_code 2 = .ok (.iload_n 2, 1) := by decide +kernel
theorem dc_Mod_feedOne_3 : decode prog_10_method_6_code 3 = .ok (.iconst 4, 1) := by decide +kernel
theorem dc_Mod_feedOne_4 : decode prog_10_method_6_code 4 = .ok (.if_icmp .ge 46, 3) := by decide +kernel
theorem dc_Mod_feedOne_7 : decode prog_10_method_6_code 7 = .ok (.iload_n 1, 1) := by decide +kernel
theorem dc_Mod_feedOne_8 : decode prog_10_method_6_code 8 = .ok (.bipush 8, 2) := by decide +kernel
theorem dc_Mod_feedOne_10 : decode prog_10_method_6_code 10 = .ok (.iload_n 2, 1) := by decide +kernel
theorem dc_Mod_feedOne_11 : decode prog_10_method_6_code 11 = .ok (.imul, 1) := by decide +kernel
theorem dc_Mod_feedOne_12 : decode prog_10_method_6_code 12 = .ok (.iushr, 1) := by decide +kernel
theorem dc_Mod_feedOne_13 : decode prog_10_method_6_code 13 = .ok (.sipush 255, 3) := by decide +kernel
theorem dc_Mod_feedOne_16 : decode prog_10_method_6_code 16 = .ok (.iand, 1) := by decide +kernel
theorem dc_Mod_feedOne_17 : decode prog_10_method_6_code 17 = .ok (.istore_n 3, 1) := by decide +kernel
theorem dc_Mod_feedOne_18 : decode prog_10_method_6_code 18 = .ok (.iload_n 3, 1) := by decide +kernel
theorem dc_Mod_feedOne_19 : decode prog_10_method_6_code 19 = .ok (.ifCond .eq 25, 3) := by decide +kernel
theorem dc_Mod_feedOne_22 : decode prog_10_method_6_code 22 = .ok (.aload_n 0, 1) := by decide +kernel
theorem dc_Mod_feedOne_23 : decode prog_10_method_6_code 23 = .ok (.getfield 7, 3) := by decide +kernel
theorem dc_Mod_feedOne_26 : decode prog_10_method_6_code 26 = .ok (.aload_n 0, 1) := by decide +kernel
theorem dc_Mod_feedOne_27 : decode prog_10_method_6_code 27 = .ok (.getfield 13, 3) := by decide +kernel
theorem dc_Mod_feedOne_30 : decode prog_10_method_6_code 30 = .ok (.iconst 0, 1) := by decide +kernel
theorem dc_Mod_feedOne_31 : decode prog_10_method_6_code 31 = .ok (.iaload, 1) := by decide +kernel
theorem dc_Mod_feedOne_32 : decode prog_10_method_6_code 32 = .ok (.iload_n 3, 1) := by decide +kernel
theorem dc_Mod_feedOne_33 : decode prog_10_method_6_code 33 = .ok (.iastore, 1) := by decide +kernel
theorem dc_Mod_feedOne_34 : decode prog_10_method_6_code 34 = .ok (.aload_n 0, 1) := by decide +kernel
theorem dc_Mod_feedOne_35 : decode prog_10_method_6_code 35 = .ok (.getfield 13, 3) := by decide +kernel
theorem dc_Mod_feedOne_38 : decode prog_10_method_6_code 38 = .ok (.iconst 0, 1) := by decide +kernel
theorem dc_Mod_feedOne_39 : decode prog_10_method_6_code 39 = .ok (.dup2, 1) := by decide +kernel
theorem dc_Mod_feedOne_40 : decode prog_10_method_6_code 40 = .ok (.iaload, 1) := by decide +kernel
theorem dc_Mod_feedOne_41 : decode prog_10_method_6_code 41 = .ok (.iconst 1, 1) := by decide +kernel
theorem dc_Mod_feedOne_42 : decode prog_10_method_6_code 42 = .ok (.iadd, 1) := by decide +kernel
theorem dc_Mod_feedOne_43 : decode prog_10_method_6_code 43 = .ok (.iastore, 1) := by decide +kernel
theorem dc_Mod_feedOne_44 : decode prog_10_method_6_code 44 = .ok (.iinc 2 1, 3) := by decide +kernel
theorem dc_Mod_feedOne_47 : decode prog_10_method_6_code 47 = .ok (.goto (-45), 3) := by decide +kernel
theorem dc_Mod_feedOne_50 : decode prog_10_method_6_code 50 = .ok (.return_, 1) := by decide +kernel
theorem dc_Mod_feed_0 : decode prog_10_method_7_code 0 = .ok (.aload_n 0, 1) := by decide +kernel
theorem dc_Mod_feed_1 : decode prog_10_method_7_code 1 = .ok (.aload_n 0, 1) := by decide +kernel
theorem dc_Mod_feed_2 : decode prog_10_method_7_code 2 = .ok (.getfield 13, 3) := by decide +kernel
theorem dc_Mod_feed_5 : decode prog_10_method_7_code 5 = .ok (.iconst 0, 1) := by decide +kernel
theorem dc_Mod_feed_6 : decode prog_10_method_7_code 6 = .ok (.iaload, 1) := by decide +kernel
theorem dc_Mod_feed_7 : decode prog_10_method_7_code 7 = .ok (.iload_n 1, 1) := by decide +kernel
theorem dc_Mod_feed_8 : decode prog_10_method_7_code 8 = .ok (.invokestatic 102, 3) := by decide +kernel
theorem dc_Mod_feed_11 : decode prog_10_method_7_code 11 = .ok (.iadd, 1) := by decide +kernel
theorem dc_Mod_feed_12 : decode prog_10_method_7_code 12 = .ok (.iload_n 2, 1) := by decide +kernel
theorem dc_Mod_feed_13 : decode prog_10_method_7_code 13 = .ok (.invokestatic 102, 3) := by decide +kernel
theorem dc_Mod_feed_16 : decode prog_10_method_7_code 16 = .ok (.iadd, 1) := by decide +kernel
theorem dc_Mod_feed_17 : decode prog_10_method_7_code 17 = .ok (.iload_n 3, 1) := by decide +kernel
theorem dc_Mod_feed_18 : decode prog_10_method_7_code 18 = .ok (.invokestatic 102, 3) := by decide +kernel
theorem dc_Mod_feed_21 : decode prog_10_method_7_code 21 = .ok (.iadd, 1) := by decide +kernel
theorem dc_Mod_feed_22 : decode prog_10_method_7_code 22 = .ok (.iload 4, 2) := by decide +kernel
theorem dc_Mod_feed_24 : decode prog_10_method_7_code 24 = .ok (.invokestatic 102, 3) := by decide +kernel
theorem dc_Mod_feed_27 : decode prog_10_method_7_code 27 = .ok (.iadd, 1) := by decide +kernel
theorem dc_Mod_feed_28 : decode prog_10_method_7_code 28 = .ok (.iload 5, 2) := by decide +kernel
theorem dc_Mod_feed_30 : decode prog_10_method_7_code 30 = .ok (.invokestatic 102, 3) := by decide +kernel
theorem dc_Mod_feed_33 : decode prog_10_method_7_code 33 = .ok (.iadd, 1) := by decide +kernel
theorem dc_Mod_feed_34 : decode prog_10_method_7_code 34 = .ok (.bipush 120, 2) := by decide +kernel
theorem dc_Mod_feed_36 : decode prog_10_method_7_code 36 = .ok (.if_icmp .gt 7, 3) := by decide +kernel
theorem dc_Mod_feed_39 : decode prog_10_method_7_code 39 = .ok (.iconst 1, 1) := by decide +kernel
theorem dc_Mod_feed_40 : decode prog_10_method_7_code 40 = .ok (.goto 4, 3) := by decide +kernel
theorem dc_Mod_feed_43 : decode prog_10_method_7_code 43 = .ok (.iconst 0, 1) := by decide +kernel
theorem dc_Mod_feed_44 : decode prog_10_method_7_code 44 = .ok (.iconst 1, 1) := by decide +kernel
theorem dc_Mod_feed_45 : decode prog_10_method_7_code 45 = .ok (.invokevirtual 106, 3) := by decide +kernel
theorem dc_Mod_feed_48 : decode prog_10_method_7_code 48 = .ok (.ifCond .ne 5, 3) := by decide +kernel
theorem dc_Mod_feed_51 : decode prog_10_method_7_code 51 = .ok (.iconst 0, 1) := by decide +kernel
theorem dc_Mod_feed_52 : decode prog_10_method_7_code 52 = .ok (.ireturn, 1) := by decide +kernel
theorem dc_Mod_feed_53 : decode prog_10_method_7_code 53 = .ok (.aload_n 0, 1) := by decide +kernel
theorem dc_Mod_feed_54 : decode prog_10_method_7_code 54 = .ok (.iload_n 1, 1) := by decide +kernel
theorem dc_Mod_feed_55 : decode prog_10_method_7_code 55 = .ok (.invokevirtual 110, 3) := by decide +kernel
theorem dc_Mod_feed_58 : decode prog_10_method_7_code 58 = .ok (.aload_n 0, 1) := by decide +kernel
theorem dc_Mod_feed_59 : decode prog_10_method_7_code 59 = .ok (.iload_n 2, 1) := by decide +kernel
theorem dc_Mod_feed_60 : decode prog_10_method_7_code 60 = .ok (.invokevirtual 110, 3) := by decide +kernel
theorem dc_Mod_feed_63 : decode prog_10_method_7_code 63 = .ok (.aload_n 0, 1) := by decide +kernel
theorem dc_Mod_feed_64 : decode prog_10_method_7_code 64 = .ok (.iload_n 3, 1) := by decide +kernel
theorem dc_Mod_feed_65 : decode prog_10_method_7_code 65 = .ok (.invokevirtual 110, 3) := by decide +kernel
theorem dc_Mod_feed_68 : decode prog_10_method_7_code 68 = .ok (.aload_n 0, 1) := by decide +kernel
theorem dc_Mod_feed_69 : decode prog_10_method_7_code 69 = .ok (.iload 4, 2) := by decide +kernel
theorem dc_Mod_feed_71 : decode prog_10_method_7_code 71 = .ok (.invokevirtual 110, 3) := by decide +kernel
theorem dc_Mod_feed_74 : decode prog_10_method_7_code 74 = .ok (.aload_n 0, 1) := by decide +kernel
theorem dc_Mod_feed_75 : decode prog_10_method_7_code 75 = .ok (.iload 5, 2) := by decide +kernel
theorem dc_Mod_feed_77 : decode prog_10_method_7_code 77 = .ok (.invokevirtual 110, 3) := by decide +kernel
theorem dc_Mod_feed_80 : decode prog_10_method_7_code 80 = .ok (.aload_n 0, 1) := by decide +kernel
theorem dc_Mod_feed_81 : decode prog_10_method_7_code 81 = .ok (.getfield 13, 3) := by decide +kernel
theorem dc_Mod_feed_84 : decode prog_10_method_7_code 84 = .ok (.iconst 0, 1) := by decide +kernel
theorem dc_Mod_feed_85 : decode prog_10_method_7_code 85 = .ok (.iaload, 1) := by decide +kernel
theorem dc_Mod_feed_86 : decode prog_10_method_7_code 86 = .ok (.ireturn, 1) := by decide +kernel
theorem dc_Mod_clear_0 : decode prog_10_method_8_code 0 = .ok (.aload_n 0, 1) := by decide +kernel
theorem dc_Mod_clear_1 : decode prog_10_method_8_code 1 = .ok (.iconst 0, 1) := by decide +kernel
theorem dc_Mod_clear_2 : decode prog_10_method_8_code 2 = .ok (.putfield 99, 3) := by decide +kernel
theorem dc_Mod_clear_5 : decode prog_10_method_8_code 5 = .ok (.aload_n 0, 1) := by decide +kernel
theorem dc_Mod_clear_6 : decode prog_10_method_8_code 6 = .ok (.getfield 13, 3) := by decide +kernel
theorem dc_Mod_clear_9 : decode prog_10_method_8_code 9 = .ok (.iconst 0, 1) := by decide +kernel
theorem dc_Mod_clear_10 : decode prog_10_method_8_code 10 = .ok (.iaload, 1) := by decide +kernel
theorem dc_Mod_clear_11 : decode prog_10_method_8_code 11 = .ok (.istore_n 1, 1) := by decide +kernel
theorem dc_Mod_clear_12 : decode prog_10_method_8_code 12 = .ok (.aload_n 0, 1) := by decide +kernel
theorem dc_Mod_clear_13 : decode prog_10_method_8_code 13 = .ok (.getfield 13, 3) := by decide +kernel
theorem dc_Mod_clear_16 : decode prog_10_method_8_code 16 = .ok (.iconst 0, 1) := by decide +kernel
theorem dc_Mod_clear_17 : decode prog_10_method_8_code 17 = .ok (.iconst 0, 1) := by decide +kernel
theorem dc_Mod_clear_18 : decode prog_10_method_8_code 18 = .ok (.iastore, 1) := by decide +kernel
theorem dc_Mod_clear_19 : decode prog_10_method_8_code 19 = .ok (.iload_n 1, 1) := by decide +kernel
theorem dc_Mod_clear_20 : decode prog_10_method_8_code 20 = .ok (.ireturn, 1) := by decide +kernel
theorem dc_Mod_point_0 : decode prog_10_method_9_code 0 = .ok (.aload_n 0, 1) := by decide +kernel
theorem dc_Mod_point_1 : decode prog_10_method_9_code 1 = .ok (.dup, 1) := by decide +kernel
theorem dc_Mod_point_2 : decode prog_10_method_9_code 2 = .ok (.getfield 114, 3) := by decide +kernel
theorem dc_Mod_point_5 : decode prog_10_method_9_code 5 = .ok (.iconst 1, 1) := by decide +kernel
theorem dc_Mod_point_6 : decode prog_10_method_9_code 6 = .ok (.iadd, 1) := by decide +kernel
theorem dc_Mod_point_7 : decode prog_10_method_9_code 7 = .ok (.putfield 114, 3) := by decide +kernel
theorem dc_Mod_point_10 : decode prog_10_method_9_code 10 = .ok (.aload_n 0, 1) := by decide +kernel
theorem dc_Mod_point_11 : decode prog_10_method_9_code 11 = .ok (.getfield 114, 3) := by decide +kernel
theorem dc_Mod_point_14 : decode prog_10_method_9_code 14 = .ok (.iconst 1, 1) := by decide +kernel
theorem dc_Mod_point_15 : decode prog_10_method_9_code 15 = .ok (.isub, 1) := by decide +kernel
theorem dc_Mod_point_16 : decode prog_10_method_9_code 16 = .ok (.ireturn, 1) := by decide +kernel
theorem dc_Mod_edge_0 : decode prog_10_method_10_code 0 = .ok (.aload_n 0, 1) := by decide +kernel
theorem dc_Mod_edge_1 : decode prog_10_method_10_code 1 = .ok (.getfield 71, 3) := by decide +kernel
theorem dc_Mod_edge_4 : decode prog_10_method_10_code 4 = .ok (.aload_n 0, 1) := by decide +kernel
theorem dc_Mod_edge_5 : decode prog_10_method_10_code 5 = .ok (.getfield 117, 3) := by decide +kernel
theorem dc_Mod_edge_8 : decode prog_10_method_10_code 8 = .ok (.iload_n 1, 1) := by decide +kernel
theorem dc_Mod_edge_9 : decode prog_10_method_10_code 9 = .ok (.iastore, 1) := by decide +kernel
theorem dc_Mod_edge_10 : decode prog_10_method_10_code 10 = .ok (.aload_n 0, 1) := by decide +kernel
theorem dc_Mod_edge_11 : decode prog_10_method_10_code 11 = .ok (.getfield 74, 3) := by decide +kernel
theorem dc_Mod_edge_14 : decode prog_10_method_10_code 14 = .ok (.aload_n 0, 1) := by decide +kernel
theorem dc_Mod_edge_15 : decode prog_10_method_10_code 15 = .ok (.getfield 117, 3) := by decide +kernel
theorem dc_Mod_edge_18 : decode prog_10_method_10_code 18 = .ok (.iload_n 2, 1) := by decide +kernel
theorem dc_Mod_edge_19 : decode prog_10_method_10_code 19 = .ok (.iastore, 1) := by decide +kernel
theorem dc_Mod_edge_20 : decode prog_10_method_10_code 20 = .ok (.aload_n 0, 1) := by decide +kernel
theorem dc_Mod_edge_21 : decode prog_10_method_10_code 21 = .ok (.getfield 77, 3) := by decide +kernel
theorem dc_Mod_edge_24 : decode prog_10_method_10_code 24 = .ok (.aload_n 0, 1) := by decide +kernel
theorem dc_Mod_edge_25 : decode prog_10_method_10_code 25 = .ok (.getfield 117, 3) := by decide +kernel
theorem dc_Mod_edge_28 : decode prog_10_method_10_code 28 = .ok (.iload_n 3, 1) := by decide +kernel
theorem dc_Mod_edge_29 : decode prog_10_method_10_code 29 = .ok (.iastore, 1) := by decide +kernel
theorem dc_Mod_edge_30 : decode prog_10_method_10_code 30 = .ok (.aload_n 0, 1) := by decide +kernel
theorem dc_Mod_edge_31 : decode prog_10_method_10_code 31 = .ok (.getfield 80, 3) := by decide +kernel
theorem dc_Mod_edge_34 : decode prog_10_method_10_code 34 = .ok (.aload_n 0, 1) := by decide +kernel
theorem dc_Mod_edge_35 : decode prog_10_method_10_code 35 = .ok (.getfield 117, 3) := by decide +kernel
theorem dc_Mod_edge_38 : decode prog_10_method_10_code 38 = .ok (.iload 4, 2) := by decide +kernel
theorem dc_Mod_edge_40 : decode prog_10_method_10_code 40 = .ok (.iastore, 1) := by decide +kernel
theorem dc_Mod_edge_41 : decode prog_10_method_10_code 41 = .ok (.aload_n 0, 1) := by decide +kernel
theorem dc_Mod_edge_42 : decode prog_10_method_10_code 42 = .ok (.dup, 1) := by decide +kernel
theorem dc_Mod_edge_43 : decode prog_10_method_10_code 43 = .ok (.getfield 117, 3) := by decide +kernel
theorem dc_Mod_edge_46 : decode prog_10_method_10_code 46 = .ok (.iconst 1, 1) := by decide +kernel
theorem dc_Mod_edge_47 : decode prog_10_method_10_code 47 = .ok (.iadd, 1) := by decide +kernel
theorem dc_Mod_edge_48 : decode prog_10_method_10_code 48 = .ok (.putfield 117, 3) := by decide +kernel
theorem dc_Mod_edge_51 : decode prog_10_method_10_code 51 = .ok (.return_, 1) := by decide +kernel
theorem dc_Mod_fail_0 : decode prog_10_method_11_code 0 = .ok (.aload_n 0, 1) := by decide +kernel
theorem dc_Mod_fail_1 : decode prog_10_method_11_code 1 = .ok (.aload_n 0, 1) := by decide +kernel
theorem dc_Mod_fail_2 : decode prog_10_method_11_code 2 = .ok (.getfield 120, 3) := by decide +kernel
theorem dc_Mod_fail_5 : decode prog_10_method_11_code 5 = .ok (.iconst (-1), 1) := by decide +kernel
theorem dc_Mod_fail_6 : decode prog_10_method_11_code 6 = .ok (.if_icmp .ne 7, 3) := by decide +kernel
theorem dc_Mod_fail_9 : decode prog_10_method_11_code 9 = .ok (.iload_n 1, 1) := by decide +kernel
theorem dc_Mod_fail_10 : decode prog_10_method_11_code 10 = .ok (.goto 7, 3) := by decide +kernel
theorem dc_Mod_fail_13 : decode prog_10_method_11_code 13 = .ok (.aload_n 0, 1) := by decide +kernel
theorem dc_Mod_fail_14 : decode prog_10_method_11_code 14 = .ok (.getfield 120, 3) := by decide +kernel
theorem dc_Mod_fail_17 : decode prog_10_method_11_code 17 = .ok (.putfield 120, 3) := by decide +kernel
theorem dc_Mod_fail_20 : decode prog_10_method_11_code 20 = .ok (.return_, 1) := by decide +kernel
theorem dc_Mod_isItem_0 : decode prog_10_method_12_code 0 = .ok (.iload_n 0, 1) := by decide +kernel
theorem dc_Mod_isItem_1 : decode prog_10_method_12_code 1 = .ok (.bipush 93, 2) := by decide +kernel
theorem dc_Mod_isItem_3 : decode prog_10_method_12_code 3 = .ok (.if_icmp .eq 19, 3) := by decide +kernel
theorem dc_Mod_isItem_6 : decode prog_10_method_12_code 6 = .ok (.iload_n 0, 1) := by decide +kernel
theorem dc_Mod_isItem_7 : decode prog_10_method_12_code 7 = .ok (.bipush 92, 2) := by decide +kernel
theorem dc_Mod_isItem_9 : decode prog_10_method_12_code 9 = .ok (.if_icmp .eq 13, 3) := by decide +kernel
theorem dc_Mod_isItem_12 : decode prog_10_method_12_code 12 = .ok (.iload_n 0, 1) := by decide +kernel
theorem dc_Mod_isItem_13 : decode prog_10_method_12_code 13 = .ok (.bipush 45, 2) := by decide +kernel
theorem dc_Mod_isItem_15 : decode prog_10_method_12_code 15 = .ok (.if_icmp .eq 7, 3) := by decide +kernel
theorem dc_Mod_isItem_18 : decode prog_10_method_12_code 18 = .ok (.iconst 1, 1) := by decide +kernel
theorem dc_Mod_isItem_19 : decode prog_10_method_12_code 19 = .ok (.goto 4, 3) := by decide +kernel
theorem dc_Mod_isItem_22 : decode prog_10_method_12_code 22 = .ok (.iconst 0, 1) := by decide +kernel
theorem dc_Mod_isItem_23 : decode prog_10_method_12_code 23 = .ok (.ireturn, 1) := by decide +kernel
theorem dc_Mod_items_0 : decode prog_10_method_13_code 0 = .ok (.iload_n 1, 1) := by decide +kernel
theorem dc_Mod_items_1 : decode prog_10_method_13_code 1 = .ok (.istore_n 3, 1) := by decide +kernel
theorem dc_Mod_items_2 : decode prog_10_method_13_code 2 = .ok (.iload_n 3, 1) := by decide +kernel
theorem dc_Mod_items_3 : decode prog_10_method_13_code 3 = .ok (.iload_n 2, 1) := by decide +kernel
theorem dc_Mod_items_4 : decode prog_10_method_13_code 4 = .ok (.if_icmp .ge 20, 3) := by decide +kernel
theorem dc_Mod_items_7 : decode prog_10_method_13_code 7 = .ok (.aload_n 0, 1) := by decide +kernel
theorem dc_Mod_items_8 : decode prog_10_method_13_code 8 = .ok (.getfield 16, 3) := by decide +kernel
theorem dc_Mod_items_11 : decode prog_10_method_13_code 11 = .ok (.iload_n 3, 1) := by decide +kernel
theorem dc_Mod_items_12 : decode prog_10_method_13_code 12 = .ok (.iaload, 1) := by decide +kernel
theorem dc_Mod_items_13 : decode prog_10_method_13_code 13 = .ok (.bipush 94, 2) := by decide +kernel
theorem dc_Mod_items_15 : decode prog_10_method_13_code 15 = .ok (.if_icmp .ne 9, 3) := by decide +kernel
theorem dc_Mod_items_18 : decode prog_10_method_13_code 18 = .ok (.iload_n 3, 1) := by decide +kernel
theorem dc_Mod_items_19 : decode prog_10_method_13_code 19 = .ok (.iconst 1, 1) := by decide +kernel
theorem dc_Mod_items_20 : decode prog_10_method_13_code 20 = .ok (.iadd, 1) := by decide +kernel
theorem dc_Mod_items_21 : decode prog_10_method_13_code 21 = .ok (.goto 4, 3) := by decide +kernel
theorem dc_Mod_items_24 : decode prog_10_method_13_code 24 = .ok (.iload_n 3, 1) := by decide +kernel
theorem dc_Mod_items_25 : decode prog_10_method_13_code 25 = .ok (.istore_n 3, 1) := by decide +kernel
theorem dc_Mod_items_26 : decode prog_10_method_13_code 26 = .ok (.iconst 0, 1) := by decide +kernel
theorem dc_Mod_items_27 : decode prog_10_method_13_code 27 = .ok (.istore 4, 2) := by decide +kernel
theorem dc_Mod_items_29 : decode prog_10_method_13_code 29 = .ok (.iload_n 3, 1) := by decide +kernel
theorem dc_Mod_items_30 : decode prog_10_method_13_code 30 = .ok (.iload_n 2, 1) := by decide +kernel
theorem dc_Mod_items_31 : decode prog_10_method_13_code 31 = .ok (.if_icmp .ge 139, 3) := by decide +kernel
theorem dc_Mod_items_34 : decode prog_10_method_13_code 34 = .ok (.iload 4, 2) := by decide +kernel
theorem dc_Mod_items_36 : decode prog_10_method_13_code 36 = .ok (.ifCond .eq 14, 3) := by decide +kernel
theorem dc_Mod_items_39 : decode prog_10_method_13_code 39 = .ok (.aload_n 0, 1) := by decide +kernel
theorem dc_Mod_items_40 : decode prog_10_method_13_code 40 = .ok (.getfield 16, 3) := by decide +kernel
theorem dc_Mod_items_43 : decode prog_10_method_13_code 43 = .ok (.iload_n 3, 1) := by decide +kernel
theorem dc_Mod_items_44 : decode prog_10_method_13_code 44 = .ok (.iaload, 1) := by decide +kernel
theorem dc_Mod_items_45 : decode prog_10_method_13_code 45 = .ok (.bipush 93, 2) := by decide +kernel
theorem dc_Mod_items_47 : decode prog_10_method_13_code 47 = .ok (.if_icmp .eq 123, 3) := by decide +kernel
theorem dc_Mod_items_50 : decode prog_10_method_13_code 50 = .ok (.aload_n 0, 1) := by decide +kernel
theorem dc_Mod_items_51 : decode prog_10_method_13_code 51 = .ok (.getfield 120, 3) := by decide +kernel
theorem dc_Mod_items_54 : decode prog_10_method_13_code 54 = .ok (.iconst (-1), 1) := by decide +kernel
theorem dc_Mod_items_55 : decode prog_10_method_13_code 55 = .ok (.if_icmp .ne 115, 3) := by decide +kernel
theorem dc_Mod_items_58 : decode prog_10_method_13_code 58 = .ok (.aload_n 0, 1) := by decide +kernel
theorem dc_Mod_items_59 : decode prog_10_method_13_code 59 = .ok (.getfield 16, 3) := by decide +kernel
theorem dc_Mod_items_62 : decode prog_10_method_13_code 62 = .ok (.iload_n 3, 1) := by decide +kernel
theorem dc_Mod_items_63 : decode prog_10_method_13_code 63 = .ok (.iaload, 1) := by decide +kernel
theorem dc_Mod_items_64 : decode prog_10_method_13_code 64 = .ok (.invokestatic 123, 3) := by decide +kernel
theorem dc_Mod_items_67 : decode prog_10_method_13_code 67 = .ok (.ifCond .ne 8, 3) := by decide +kernel
theorem dc_Mod_items_70 : decode prog_10_method_13_code 70 = .ok (.aload_n 0, 1) := by decide +kernel
theorem dc_Mod_items_71 : decode prog_10_method_13_code 71 = .ok (.iload_n 3, 1) := by decide +kernel
theorem dc_Mod_items_72 : decode prog_10_method_13_code 72 = .ok (.invokevirtual 127, 3) := by decide +kernel
theorem dc_Mod_items_75 : decode prog_10_method_13_code 75 = .ok (.aload_n 0, 1) := by decide +kernel
theorem dc_Mod_items_76 : decode prog_10_method_13_code 76 = .ok (.getfield 16, 3) := by decide +kernel
theorem dc_Mod_items_79 : decode prog_10_method_13_code 79 = .ok (.iload_n 3, 1) := by decide +kernel
theorem dc_Mod_items_80 : decode prog_10_method_13_code 80 = .ok (.iaload, 1) := by decide +kernel
theorem dc_Mod_items_81 : decode prog_10_method_13_code 81 = .ok (.istore 5, 2) := by decide +kernel
theorem dc_Mod_items_83 : decode prog_10_method_13_code 83 = .ok (.iinc 3 1, 3) := by decide +kernel
theorem dc_Mod_items_86 : decode prog_10_method_13_code 86 = .ok (.iinc 4 1, 3) := by decide +kernel
theorem dc_Mod_items_89 : decode prog_10_method_13_code 89 = .ok (.iload_n 3, 1) := by decide +kernel
theorem dc_Mod_items_90 : decode prog_10_method_13_code 90 = .ok (.iload_n 2, 1) := by decide +kernel
theorem dc_Mod_items_91 : decode prog_10_method_13_code 91 = .ok (.if_icmp .ge 76, 3) := by decide +kernel
theorem dc_Mod_items_94 : decode prog_10_method_13_code 94 = .ok (.aload_n 0, 1) := by decide +kernel
theorem dc_Mod_items_95 : decode prog_10_method_13_code 95 = .ok (.getfield 16, 3) := by decide +kernel
theorem dc_Mod_items_98 : decode prog_10_method_13_code 98 = .ok (.iload_n 3, 1) := by decide +kernel
theorem dc_Mod_items_99 : decode prog_10_method_13_code 99 = .ok (.iaload, 1) := by decide +kernel
theorem dc_Mod_items_100 : decode prog_10_method_13_code 100 = .ok (.bipush 45, 2) := by decide +kernel
theorem dc_Mod_items_102 : decode prog_10_method_13_code 102 = .ok (.if_icmp .ne 65, 3) := by decide +kernel
theorem dc_Mod_items_105 : decode prog_10_method_13_code 105 = .ok (.iinc 3 1, 3) := by decide +kernel
theorem dc_Mod_items_108 : decode prog_10_method_13_code 108 = .ok (.iload_n 3, 1) := by decide +kernel
theorem dc_Mod_items_109 : decode prog_10_method_13_code 109 = .ok (.iload_n 2, 1) := by decide +kernel
theorem dc_Mod_items_110 : decode prog_10_method_13_code 110 = .ok (.if_icmp .ge 31, 3) := by decide +kernel
theorem dc_Mod_items_113 : decode prog_10_method_13_code 113 = .ok (.aload_n 0, 1) := by decide +kernel
theorem dc_Mod_items_114 : decode prog_10_method_13_code 114 = .ok (.getfield 16, 3) := by decide +kernel
theorem dc_Mod_items_117 : decode prog_10_method_13_code 117 = .ok (.iload_n 3, 1) := by decide +kernel
theorem dc_Mod_items_118 : decode prog_10_method_13_code 118 = .ok (.iaload, 1) := by decide +kernel
theorem dc_Mod_items_119 : decode prog_10_method_13_code 119 = .ok (.invokestatic 123, 3) := by decide +kernel
theorem dc_Mod_items_122 : decode prog_10_method_13_code 122 = .ok (.ifCond .eq 14, 3) := by decide +kernel
theorem dc_Mod_items_125 : decode prog_10_method_13_code 125 = .ok (.aload_n 0, 1) := by decide +kernel
theorem dc_Mod_items_126 : decode prog_10_method_13_code 126 = .ok (.getfield 16, 3) := by decide +kernel
theorem dc_Mod_items_129 : decode prog_10_method_13_code 129 = .ok (.iload_n 3, 1) := by decide +kernel
theorem dc_Mod_items_130 : decode prog_10_method_13_code 130 = .ok (.iaload, 1) := by decide +kernel
theorem dc_Mod_items_131 : decode prog_10_method_13_code 131 = .ok (.iload 5, 2) := by decide +kernel
theorem dc_Mod_items_133 : decode prog_10_method_13_code 133 = .ok (.if_icmp .ge 8, 3) := by decide +kernel
theorem dc_Mod_items_136 : decode prog_10_method_13_code 136 = .ok (.aload_n 0, 1) := by decide +kernel
theorem dc_Mod_items_137 : decode prog_10_method_13_code 137 = .ok (.iload_n 3, 1) := by decide +kernel
theorem dc_Mod_items_138 : decode prog_10_method_13_code 138 = .ok (.invokevirtual 127, 3) := by decide +kernel
theorem dc_Mod_items_141 : decode prog_10_method_13_code 141 = .ok (.iload_n 3, 1) := by decide +kernel
theorem dc_Mod_items_142 : decode prog_10_method_13_code 142 = .ok (.iload_n 2, 1) := by decide +kernel
theorem dc_Mod_items_143 : decode prog_10_method_13_code 143 = .ok (.if_icmp .ge 8, 3) := by decide +kernel
theorem dc_Mod_items_146 : decode prog_10_method_13_code 146 = .ok (.iload 4, 2) := by decide +kernel
theorem dc_Mod_items_148 : decode prog_10_method_13_code 148 = .ok (.goto 4, 3) := by decide +kernel
theorem dc_Mod_items_151 : decode prog_10_method_13_code 151 = .ok (.iconst 0, 1) := by decide +kernel
theorem dc_Mod_items_152 : decode prog_10_method_13_code 152 = .ok (.istore 4, 2) := by decide +kernel
theorem dc_Mod_items_154 : decode prog_10_method_13_code 154 = .ok (.iload_n 3, 1) := by decide +kernel
theorem dc_Mod_items_155 : decode prog_10_method_13_code 155 = .ok (.iload_n 2, 1) := by decide +kernel
theorem dc_Mod_items_156 : decode prog_10_method_13_code 156 = .ok (.if_icmp .ge 9, 3) := by decide +kernel
theorem dc_Mod_items_159 : decode prog_10_method_13_code 159 = .ok (.iload_n 3, 1) := by decide +kernel
theorem dc_Mod_items_160 : decode prog_10_method_13_code 160 = .ok (.iconst 1, 1) := by decide +kernel
theorem dc_Mod_items_161 : decode prog_10_method_13_code 161 = .ok (.iadd, 1) := by decide +kernel
theorem dc_Mod_items_162 : decode prog_10_method_13_code 162 = .ok (.goto 4, 3) := by decide +kernel
theorem dc_Mod_items_165 : decode prog_10_method_13_code 165 = .ok (.iload_n 3, 1) := by decide +kernel
theorem dc_Mod_items_166 : decode prog_10_method_13_code 166 = .ok (.istore_n 3, 1) := by decide +kernel
theorem dc_Mod_items_167 : decode prog_10_method_13_code 167 = .ok (.goto (-138), 3) := by decide +kernel
theorem dc_Mod_items_170 : decode prog_10_method_13_code 170 = .ok (.iload_n 3, 1) := by decide +kernel
theorem dc_Mod_items_171 : decode prog_10_method_13_code 171 = .ok (.iload_n 2, 1) := by decide +kernel
theorem dc_Mod_items_172 : decode prog_10_method_13_code 172 = .ok (.if_icmp .lt 8, 3) := by decide +kernel
theorem dc_Mod_items_175 : decode prog_10_method_13_code 175 = .ok (.aload_n 0, 1) := by decide +kernel
theorem dc_Mod_items_176 : decode prog_10_method_13_code 176 = .ok (.iload_n 2, 1) := by decide +kernel
theorem dc_Mod_items_177 : decode prog_10_method_13_code 177 = .ok (.invokevirtual 127, 3) := by decide +kernel
theorem dc_Mod_items_180 : decode prog_10_method_13_code 180 = .ok (.iload_n 3, 1) := by decide +kernel
theorem dc_Mod_items_181 : decode prog_10_method_13_code 181 = .ok (.ireturn, 1) := by decide +kernel
theorem dc_Mod_draw_0 : decode prog_10_method_14_code 0 = .ok (.bipush 60, 2) := by decide +kernel
theorem dc_Mod_draw_2 : decode prog_10_method_14_code 2 = .ok (.iload_n 1, 1) := by decide +kernel
theorem dc_Mod_draw_3 : decode prog_10_method_14_code 3 = .ok (.imul, 1) := by decide +kernel
theorem dc_Mod_draw_4 : decode prog_10_method_14_code 4 = .ok (.istore_n 2, 1) := by decide +kernel
theorem dc_Mod_draw_5 : decode prog_10_method_14_code 5 = .ok (.iload_n 2, 1) := by decide +kernel
theorem dc_Mod_draw_6 : decode prog_10_method_14_code 6 = .ok (.aload_n 0, 1) := by decide +kernel
theorem dc_Mod_draw_7 : decode prog_10_method_14_code 7 = .ok (.getfield 19, 3) := by decide +kernel
theorem dc_Mod_draw_10 : decode prog_10_method_14_code 10 = .ok (.iload_n 1, 1) := by decide +kernel
theorem dc_Mod_draw_11 : decode prog_10_method_14_code 11 = .ok (.iaload, 1) := by decide +kernel
theorem dc_Mod_draw_12 : decode prog_10_method_14_code 12 = .ok (.iadd, 1) := by decide +kernel
theorem dc_Mod_draw_13 : decode prog_10_method_14_code 13 = .ok (.istore_n 3, 1) := by decide +kernel
theorem dc_Mod_draw_14 : decode prog_10_method_14_code 14 = .ok (.aload_n 0, 1) := by decide +kernel
theorem dc_Mod_draw_15 : decode prog_10_method_14_code 15 = .ok (.iconst 2, 1) := by decide +kernel
theorem dc_Mod_draw_16 : decode prog_10_method_14_code 16 = .ok (.putfield 114, 3) := by decide +kernel
theorem dc_Mod_draw_19 : decode prog_10_method_14_code 19 = .ok (.aload_n 0, 1) := by decide +kernel
theorem dc_Mod_draw_20 : decode prog_10_method_14_code 20 = .ok (.iconst 0, 1) := by decide +kernel
theorem dc_Mod_draw_21 : decode prog_10_method_14_code 21 = .ok (.putfield 117, 3) := by decide +kernel
theorem dc_Mod_draw_24 : decode prog_10_method_14_code 24 = .ok (.aload_n 0, 1) := by decide +kernel
theorem dc_Mod_draw_25 : decode prog_10_method_14_code 25 = .ok (.iconst (-1), 1) := by decide +kernel
theorem dc_Mod_draw_26 : decode prog_10_method_14_code 26 = .ok (.putfield 120, 3) := by decide +kernel
theorem dc_Mod_draw_29 : decode prog_10_method_14_code 29 = .ok (.iconst 0, 1) := by decide +kernel
theorem dc_Mod_draw_30 : decode prog_10_method_14_code 30 = .ok (.istore 4, 2) := by decide +kernel
theorem dc_Mod_draw_32 : decode prog_10_method_14_code 32 = .ok (.aload_n 0, 1) := by decide +kernel
theorem dc_Mod_draw_33 : decode prog_10_method_14_code 33 = .ok (.getfield 90, 3) := by decide +kernel
theorem dc_Mod_draw_36 : decode prog_10_method_14_code 36 = .ok (.iconst 0, 1) := by decide +kernel
theorem dc_Mod_draw_37 : decode prog_10_method_14_code 37 = .ok (.iconst 0, 1) := by decide +kernel
theorem dc_Mod_draw_38 : decode prog_10_method_14_code 38 = .ok (.iastore, 1) := by decide +kernel
theorem dc_Mod_draw_39 : decode prog_10_method_14_code 39 = .ok (.aload_n 0, 1) := by decide +kernel
theorem dc_Mod_draw_40 : decode prog_10_method_14_code 40 = .ok (.getfield 93, 3) := by decide +kernel
theorem dc_Mod_draw_43 : decode prog_10_method_14_code 43 = .ok (.iconst 0, 1) := by decide +kernel
theorem dc_Mod_draw_44 : decode prog_10_method_14_code 44 = .ok (.iconst 1, 1) := by decide +kernel
theorem dc_Mod_draw_45 : decode prog_10_method_14_code 45 = .ok (.iastore, 1) := by decide +kernel
theorem dc_Mod_draw_46 : decode prog_10_method_14_code 46 = .ok (.aload_n 0, 1) := by decide +kernel
theorem dc_Mod_draw_47 : decode prog_10_method_14_code 47 = .ok (.invokevirtual 130, 3) := by decide +kernel
theorem dc_Mod_draw_50 : decode prog_10_method_14_code 50 = .ok (.istore 5, 2) := by decide +kernel
theorem dc_Mod_draw_52 : decode prog_10_method_14_code 52 = .ok (.aload_n 0, 1) := by decide +kernel
theorem dc_Mod_draw_53 : decode prog_10_method_14_code 53 = .ok (.iconst 0, 1) := by decide +kernel
theorem dc_Mod_draw_54 : decode prog_10_method_14_code 54 = .ok (.iload 5, 2) := by decide +kernel
theorem dc_Mod_draw_56 : decode prog_10_method_14_code 56 = .ok (.iconst 0, 1) := by decide +kernel
theorem dc_Mod_draw_57 : decode prog_10_method_14_code 57 = .ok (.iconst 0, 1) := by decide +kernel
theorem dc_Mod_draw_58 : decode prog_10_method_14_code 58 = .ok (.invokevirtual 134, 3) := by decide +kernel
theorem dc_Mod_draw_61 : decode prog_10_method_14_code 61 = .ok (.iconst (-1), 1) := by decide +kernel
theorem dc_Mod_draw_62 : decode prog_10_method_14_code 62 = .ok (.istore 6, 2) := by decide +kernel
theorem dc_Mod_draw_64 : decode prog_10_method_14_code 64 = .ok (.iload_n 2, 1) := by decide +kernel
theorem dc_Mod_draw_65 : decode prog_10_method_14_code 65 = .ok (.istore 7, 2) := by decide +kernel
theorem dc_Mod_draw_67 : decode prog_10_method_14_code 67 = .ok (.iload 7, 2) := by decide +kernel
theorem dc_Mod_draw_69 : decode prog_10_method_14_code 69 = .ok (.iload_n 3, 1) := by decide +kernel
theorem dc_Mod_draw_70 : decode prog_10_method_14_code 70 = .ok (.if_icmp .ge 451, 3) := by decide +kernel
theorem dc_Mod_draw_73 : decode prog_10_method_14_code 73 = .ok (.aload_n 0, 1) := by decide +kernel
theorem dc_Mod_draw_74 : decode prog_10_method_14_code 74 = .ok (.getfield 120, 3) := by decide +kernel
theorem dc_Mod_draw_77 : decode prog_10_method_14_code 77 = .ok (.iconst (-1), 1) := by decide +kernel
theorem dc_Mod_draw_78 : decode prog_10_method_14_code 78 = .ok (.if_icmp .ne 443, 3) := by decide +kernel
theorem dc_Mod_draw_81 : decode prog_10_method_14_code 81 = .ok (.aload_n 0, 1) := by decide +kernel
theorem dc_Mod_draw_82 : decode prog_10_method_14_code 82 = .ok (.getfield 16, 3) := by decide +kernel
theorem dc_Mod_draw_85 : decode prog_10_method_14_code 85 = .ok (.iload 7, 2) := by decide +kernel
theorem dc_Mod_draw_87 : decode prog_10_method_14_code 87 = .ok (.iaload, 1) := by decide +kernel
theorem dc_Mod_draw_88 : decode prog_10_method_14_code 88 = .ok (.istore 8, 2) := by decide +kernel
theorem dc_Mod_draw_90 : decode prog_10_method_14_code 90 = .ok (.iload 8, 2) := by decide +kernel
theorem dc_Mod_draw_92 : decode prog_10_method_14_code 92 = .ok (.bipush 42, 2) := by decide +kernel
theorem dc_Mod_draw_94 : decode prog_10_method_14_code 94 = .ok (.if_icmp .eq 17, 3) := by decide +kernel
theorem dc_Mod_draw_97 : decode prog_10_method_14_code 97 = .ok (.iload 8, 2) := by decide +kernel
theorem dc_Mod_draw_99 : decode prog_10_method_14_code 99 = .ok (.bipush 43, 2) := by decide +kernel
theorem dc_Mod_draw_101 : decode prog_10_method_14_code 101 = .ok (.if_icmp .eq 10, 3) := by decide +kernel
theorem dc_Mod_draw_104 : decode prog_10_method_14_code 104 = .ok (.iload 8, 2) := by decide +kernel
theorem dc_Mod_draw_106 : decode prog_10_method_14_code 106 = .ok (.bipush 63, 2) := by decide +kernel
theorem dc_Mod_draw_108 : decode prog_10_method_14_code 108 = .ok (.if_icmp .ne 55, 3) := by decide +kernel
theorem dc_Mod_draw_111 : decode prog_10_method_14_code 111 = .ok (.iload 6, 2) := by decide +kernel
theorem dc_Mod_draw_113 : decode prog_10_method_14_code 113 = .ok (.iconst (-1), 1) := by decide +kernel
theorem dc_Mod_draw_114 : decode prog_10_method_14_code 114 = .ok (.if_icmp .ne 12, 3) := by decide +kernel
theorem dc_Mod_draw_117 : decode prog_10_method_14_code 117 = .ok (.aload_n 0, 1) := by decide +kernel
theorem dc_Mod_draw_118 : decode prog_10_method_14_code 118 = .ok (.iload 7, 2) := by decide +kernel
theorem dc_Mod_draw_120 : decode prog_10_method_14_code 120 = .ok (.invokevirtual 127, 3) := by decide +kernel
theorem dc_Mod_draw_123 : decode prog_10_method_14_code 123 = .ok (.goto 392, 3) := by decide +kernel
theorem dc_Mod_draw_126 : decode prog_10_method_14_code 126 = .ok (.iload 8, 2) := by decide +kernel
theorem dc_Mod_draw_128 : decode prog_10_method_14_code 128 = .ok (.bipush 43, 2) := by decide +kernel
theorem dc_Mod_draw_130 : decode prog_10_method_14_code 130 = .ok (.if_icmp .eq 13, 3) := by decide +kernel
theorem dc_Mod_draw_133 : decode prog_10_method_14_code 133 = .ok (.aload_n 0, 1) := by decide +kernel
theorem dc_Mod_draw_134 : decode prog_10_method_14_code 134 = .ok (.iload 6, 2) := by decide +kernel
theorem dc_Mod_draw_136 : decode prog_10_method_14_code 136 = .ok (.iload 5, 2) := by decide +kernel
theorem dc_Mod_draw_138 : decode prog_10_method_14_code 138 = .ok (.iconst 0, 1) := by decide +kernel
theorem dc_Mod_draw_139 : decode prog_10_method_14_code 139 = .ok (.iconst 0, 1) := by decide +kernel
theorem dc_Mod_draw_140 : decode prog_10_method_14_code 140 = .ok (.invokevirtual 134, 3) := by decide +kernel
theorem dc_Mod_draw_143 : decode prog_10_method_14_code 143 = .ok (.iload 8, 2) := by decide +kernel
theorem dc_Mod_draw_145 : decode prog_10_method_14_code 145 = .ok (.bipush 63, 2) := by decide +kernel
theorem dc_Mod_draw_147 : decode prog_10_method_14_code 147 = .ok (.if_icmp .eq 368, 3) := by decide +kernel
theorem dc_Mod_draw_150 : decode prog_10_method_14_code 150 = .ok (.aload_n 0, 1) := by decide +kernel
theorem dc_Mod_draw_151 : decode prog_10_method_14_code 151 = .ok (.iload 5, 2) := by decide +kernel
theorem dc_Mod_draw_153 : decode prog_10_method_14_code 153 = .ok (.iload 6, 2) := by decide +kernel
theorem dc_Mod_draw_155 : decode prog_10_method_14_code 155 = .ok (.iconst 0, 1) := by decide +kernel
theorem dc_Mod_draw_156 : decode prog_10_method_14_code 156 = .ok (.iconst 0, 1) := by decide +kernel
theorem dc_Mod_draw_157 : decode prog_10_method_14_code 157 = .ok (.invokevirtual 134, 3) := by decide +kernel
theorem dc_Mod_draw_160 : decode prog_10_method_14_code 160 = .ok (.goto 355, 3) := by decide +kernel
theorem dc_Mod_draw_163 : decode prog_10_method_14_code 163 = .ok (.iload 8, 2) := by decide +kernel
theorem dc_Mod_draw_165 : decode prog_10_method_14_code 165 = .ok (.bipush 124, 2) := by decide +kernel
theorem dc_Mod_draw_167 : decode prog_10_method_14_code 167 = .ok (.if_icmp .ne 45, 3) := by decide +kernel
theorem dc_Mod_draw_170 : decode prog_10_method_14_code 170 = .ok (.aload_n 0, 1) := by decide +kernel
theorem dc_Mod_draw_171 : decode prog_10_method_14_code 171 = .ok (.iload 5, 2) := by decide +kernel
theorem dc_Mod_draw_173 : decode prog_10_method_14_code 173 = .ok (.aload_n 0, 1) := by decide +kernel
theorem dc_Mod_draw_174 : decode prog_10_method_14_code 174 = .ok (.getfield 93, 3) := by decide +kernel
theorem dc_Mod_draw_177 : decode prog_10_method_14_code 177 = .ok (.iload 4, 2) := by decide +kernel
theorem dc_Mod_draw_179 : decode prog_10_method_14_code 179 = .ok (.iaload, 1) := by decide +kernel
theorem dc_Mod_draw_180 : decode prog_10_method_14_code 180 = .ok (.iconst 0, 1) := by decide +kernel
theorem dc_Mod_draw_181 : decode prog_10_method_14_code 181 = .ok (.iconst 0, 1) := by decide +kernel
theorem dc_Mod_draw_182 : decode prog_10_method_14_code 182 = .ok (.invokevirtual 134, 3) := by decide +kernel
theorem dc_Mod_draw_185 : decode prog_10_method_14_code 185 = .ok (.aload_n 0, 1) := by decide +kernel
theorem dc_Mod_draw_186 : decode prog_10_method_14_code 186 = .ok (.invokevirtual 130, 3) := by decide +kernel
theorem dc_Mod_draw_189 : decode prog_10_method_14_code 189 = .ok (.istore 5, 2) := by decide +kernel
theorem dc_Mod_draw_191 : decode prog_10_method_14_code 191 = .ok (.aload_n 0, 1) := by decide +kernel
theorem dc_Mod_draw_192 : decode prog_10_method_14_code 192 = .ok (.aload_n 0, 1) := by decide +kernel
theorem dc_Mod_draw_193 : decode prog_10_method_14_code 193 = .ok (.getfield 90, 3) := by decide +kernel
theorem dc_Mod_draw_196 : decode prog_10_method_14_code 196 = .ok (.iload 4, 2) := by decide +kernel
theorem dc_Mod_draw_198 : decode prog_10_method_14_code 198 = .ok (.iaload, 1) := by decide +kernel
theorem dc_Mod_draw_199 : decode prog_10_method_14_code 199 = .ok (.iload 5, 2) := by decide +kernel
theorem dc_Mod_draw_201 : decode prog_10_method_14_code 201 = .ok (.iconst 0, 1) := by decide +kernel
theorem dc_Mod_draw_202 : decode prog_10_method_14_code 202 = .ok (.iconst 0, 1) := by decide +kernel
theorem dc_Mod_draw_203 : decode prog_10_method_14_code 203 = .ok (.invokevirtual 134, 3) := by decide +kernel
theorem dc_Mod_draw_206 : decode prog_10_method_14_code 206 = .ok (.iconst (-1), 1) := by decide +kernel
theorem dc_Mod_draw_207 : decode prog_10_method_14_code 207 = .ok (.istore 6, 2) := by decide +kernel
theorem dc_Mod_draw_209 : decode prog_10_method_14_code 209 = .ok (.goto 306, 3) := by decide +kernel
theorem dc_Mod_draw_212 : decode prog_10_method_14_code 212 = .ok (.iload 8, 2) := by decide +kernel
theorem dc_Mod_draw_214 : decode prog_10_method_14_code 214 = .ok (.bipush 40, 2) := by decide +kernel
theorem dc_Mod_draw_216 : decode prog_10_method_14_code 216 = .ok (.if_icmp .ne 114, 3) := by decide +kernel
theorem dc_Mod_draw_219 : decode prog_10_method_14_code 219 = .ok (.iload 4, 2) := by decide +kernel
theorem dc_Mod_draw_221 : decode prog_10_method_14_code 221 = .ok (.bipush 10, 2) := by decide +kernel
theorem dc_Mod_draw_223 : decode prog_10_method_14_code 223 = .ok (.if_icmp .ne 9, 3) := by decide +kernel
theorem dc_Mod_draw_226 : decode prog_10_method_14_code 226 = .ok (.aload_n 0, 1) := by decide +kernel
theorem dc_Mod_draw_227 : decode prog_10_method_14_code 227 = .ok (.iload 7, 2) := by decide +kernel
theorem dc_Mod_draw_229 : decode prog_10_method_14_code 229 = .ok (.invokevirtual 127, 3) := by decide +kernel
theorem dc_Mod_draw_232 : decode prog_10_method_14_code 232 = .ok (.iinc 4 1, 3) := by decide +kernel
theorem dc_Mod_draw_235 : decode prog_10_method_14_code 235 = .ok (.aload_n 0, 1) := by decide +kernel
theorem dc_Mod_draw_236 : decode prog_10_method_14_code 236 = .ok (.getfield 96, 3) := by decide +kernel
theorem dc_Mod_draw_239 : decode prog_10_method_14_code 239 = .ok (.iload 4, 2) := by decide +kernel
theorem dc_Mod_draw_241 : decode prog_10_method_14_code 241 = .ok (.aload_n 0, 1) := by decide +kernel
theorem dc_Mod_draw_242 : decode prog_10_method_14_code 242 = .ok (.invokevirtual 130, 3) := by decide +kernel
theorem dc_Mod_draw_245 : decode prog_10_method_14_code 245 = .ok (.iastore, 1) := by decide +kernel
theorem dc_Mod_draw_246 : decode prog_10_method_14_code 246 = .ok (.aload_n 0, 1) := by decide +kernel
theorem dc_Mod_draw_247 : decode prog_10_method_14_code 247 = .ok (.iload 5, 2) := by decide +kernel
theorem dc_Mod_draw_249 : decode prog_10_method_14_code 249 = .ok (.aload_n 0, 1) := by decide +kernel
theorem dc_Mod_draw_250 : decode prog_10_method_14_code 250 = .ok (.getfield 96, 3) := by decide +kernel
theorem dc_Mod_draw_253 : decode prog_10_method_14_code 253 = .ok (.iload 4, 2) := by decide +kernel
theorem dc_Mod_draw_255 : decode prog_10_method_14_code 255 = .ok (.iaload, 1) := by decide +kernel
theorem dc_Mod_draw_256 : decode prog_10_method_14_code 256 = .ok (.iconst 0, 1) := by decide +kernel
theorem dc_Mod_draw_257 : decode prog_10_method_14_code 257 = .ok (.iconst 0, 1) := by decide +kernel
theorem dc_Mod_draw_258 : decode prog_10_method_14_code 258 = .ok (.invokevirtual 134, 3) := by decide +kernel
theorem dc_Mod_draw_261 : decode prog_10_method_14_code 261 = .ok (.aload_n 0, 1) := by decide +kernel
theorem dc_Mod_draw_262 : decode prog_10_method_14_code 262 = .ok (.getfield 90, 3) := by decide +kernel
theorem dc_Mod_draw_265 : decode prog_10_method_14_code 265 = .ok (.iload 4, 2) := by decide +kernel
theorem dc_Mod_draw_267 : decode prog_10_method_14_code 267 = .ok (.aload_n 0, 1) := by decide +kernel
theorem dc_Mod_draw_268 : decode prog_10_method_14_code 268 = .ok (.invokevirtual 130, 3) := by decide +kernel
theorem dc_Mod_draw_271 : decode prog_10_method_14_code 271 = .ok (.iastore, 1) := by decide +kernel
theorem dc_Mod_draw_272 : decode prog_10_method_14_code 272 = .ok (.aload_n 0, 1) := by decide +kernel
theorem dc_Mod_draw_273 : decode prog_10_method_14_code 273 = .ok (.getfield 93, 3) := by decide +kernel
theorem dc_Mod_draw_276 : decode prog_10_method_14_code 276 = .ok (.iload 4, 2) := by decide +kernel
theorem dc_Mod_draw_278 : decode prog_10_method_14_code 278 = .ok (.aload_n 0, 1) := by decide +kernel
theorem dc_Mod_draw_279 : decode prog_10_method_14_code 279 = .ok (.invokevirtual 130, 3) := by decide +kernel
theorem dc_Mod_draw_282 : decode prog_10_method_14_code 282 = .ok (.iastore, 1) := by decide +kernel
theorem dc_Mod_draw_283 : decode prog_10_method_14_code 283 = .ok (.aload_n 0, 1) := by decide +kernel
theorem dc_Mod_draw_284 : decode prog_10_method_14_code 284 = .ok (.aload_n 0, 1) := by decide +kernel
theorem dc_Mod_draw_285 : decode prog_10_method_14_code 285 = .ok (.getfield 96, 3) := by decide +kernel
theorem dc_Mod_draw_288 : decode prog_10_method_14_code 288 = .ok (.iload 4, 2) := by decide +kernel
theorem dc_Mod_draw_290 : decode prog_10_method_14_code 290 = .ok (.iaload, 1) := by decide +kernel
theorem dc_Mod_draw_291 : decode prog_10_method_14_code 291 = .ok (.aload_n 0, 1) := by decide +kernel
theorem dc_Mod_draw_292 : decode prog_10_method_14_code 292 = .ok (.getfield 90, 3) := by decide +kernel
theorem dc_Mod_draw_295 : decode prog_10_method_14_code 295 = .ok (.iload 4, 2) := by decide +kernel
theorem dc_Mod_draw_297 : decode prog_10_method_14_code 297 = .ok (.iaload, 1) := by decide +kernel
theorem dc_Mod_draw_298 : decode prog_10_method_14_code 298 = .ok (.iconst 0, 1) := by decide +kernel
theorem dc_Mod_draw_299 : decode prog_10_method_14_code 299 = .ok (.iconst 0, 1) := by decide +kernel
theorem dc_Mod_draw_300 : decode prog_10_method_14_code 300 = .ok (.invokevirtual 134, 3) := by decide +kernel
theorem dc_Mod_draw_303 : decode prog_10_method_14_code 303 = .ok (.aload_n 0, 1) := by decide +kernel
theorem dc_Mod_draw_304 : decode prog_10_method_14_code 304 = .ok (.invokevirtual 130, 3) := by decide +kernel
theorem dc_Mod_draw_307 : decode prog_10_method_14_code 307 = .ok (.istore 5, 2) := by decide +kernel
theorem dc_Mod_draw_309 : decode prog_10_method_14_code 309 = .ok (.aload_n 0, 1) := by decide +kernel
theorem dc_Mod_draw_310 : decode prog_10_method_14_code 310 = .ok (.aload_n 0, 1) := by decide +kernel
theorem dc_Mod_draw_311 : decode prog_10_method_14_code 311 = .ok (.getfield 90, 3) := by decide +kernel
theorem dc_Mod_draw_314 : decode prog_10_method_14_code 314 = .ok (.iload 4, 2) := by decide +kernel
theorem dc_Mod_draw_316 : decode prog_10_method_14_code 316 = .ok (.iaload, 1) := by decide +kernel
theorem dc_Mod_draw_317 : decode prog_10_method_14_code 317 = .ok (.iload 5, 2) := by decide +kernel
theorem dc_Mod_draw_319 : decode prog_10_method_14_code 319 = .ok (.iconst 0, 1) := by decide +kernel
theorem dc_Mod_draw_320 : decode prog_10_method_14_code 320 = .ok (.iconst 0, 1) := by decide +kernel
theorem dc_Mod_draw_321 : decode prog_10_method_14_code 321 = .ok (.invokevirtual 134, 3) := by decide +kernel
theorem dc_Mod_draw_324 : decode prog_10_method_14_code 324 = .ok (.iconst (-1), 1) := by decide +kernel
theorem dc_Mod_draw_325 : decode prog_10_method_14_code 325 = .ok (.istore 6, 2) := by decide +kernel
theorem dc_Mod_draw_327 : decode prog_10_method_14_code 327 = .ok (.goto 188, 3) := by decide +kernel
theorem dc_Mod_draw_330 : decode prog_10_method_14_code 330 = .ok (.iload 8, 2) := by decide +kernel
theorem dc_Mod_draw_332 : decode prog_10_method_14_code 332 = .ok (.bipush 41, 2) := by decide +kernel
theorem dc_Mod_draw_334 : decode prog_10_method_14_code 334 = .ok (.if_icmp .ne 68, 3) := by decide +kernel
theorem dc_Mod_draw_337 : decode prog_10_method_14_code 337 = .ok (.iload 4, 2) := by decide +kernel
theorem dc_Mod_draw_339 : decode prog_10_method_14_code 339 = .ok (.ifCond .ne 12, 3) := by decide +kernel
theorem dc_Mod_draw_342 : decode prog_10_method_14_code 342 = .ok (.aload_n 0, 1) := by decide +kernel
theorem dc_Mod_draw_343 : decode prog_10_method_14_code 343 = .ok (.iload 7, 2) := by decide +kernel
theorem dc_Mod_draw_345 : decode prog_10_method_14_code 345 = .ok (.invokevirtual 127, 3) := by decide +kernel
theorem dc_Mod_draw_348 : decode prog_10_method_14_code 348 = .ok (.goto 167, 3) := by decide +kernel
theorem dc_Mod_draw_351 : decode prog_10_method_14_code 351 = .ok (.aload_n 0, 1) := by decide +kernel
theorem dc_Mod_draw_352 : decode prog_10_method_14_code 352 = .ok (.iload 5, 2) := by decide +kernel
theorem dc_Mod_draw_354 : decode prog_10_method_14_code 354 = .ok (.aload_n 0, 1) := by decide +kernel
theorem dc_Mod_draw_355 : decode prog_10_method_14_code 355 = .ok (.getfield 93, 3) := by decide +kernel
theorem dc_Mod_draw_358 : decode prog_10_method_14_code 358 = .ok (.iload 4, 2) := by decide +kernel
theorem dc_Mod_draw_360 : decode prog_10_method_14_code 360 = .ok (.iaload, 1) := by decide +kernel
theorem dc_Mod_draw_361 : decode prog_10_method_14_code 361 = .ok (.iconst 0, 1) := by decide +kernel
theorem dc_Mod_draw_362 : decode prog_10_method_14_code 362 = .ok (.iconst 0, 1) := by decide +kernel
theorem dc_Mod_draw_363 : decode prog_10_method_14_code 363 = .ok (.invokevirtual 134, 3) := by decide +kernel
theorem dc_Mod_draw_366 : decode prog_10_method_14_code 366 = .ok (.aload_n 0, 1) := by decide +kernel
theorem dc_Mod_draw_367 : decode prog_10_method_14_code 367 = .ok (.invokevirtual 130, 3) := by decide +kernel
theorem dc_Mod_draw_370 : decode prog_10_method_14_code 370 = .ok (.istore 5, 2) := by decide +kernel
theorem dc_Mod_draw_372 : decode prog_10_method_14_code 372 = .ok (.aload_n 0, 1) := by decide +kernel
theorem dc_Mod_draw_373 : decode prog_10_method_14_code 373 = .ok (.aload_n 0, 1) := by decide +kernel
theorem dc_Mod_draw_374 : decode prog_10_method_14_code 374 = .ok (.getfield 93, 3) := by decide +kernel
theorem dc_Mod_draw_377 : decode prog_10_method_14_code 377 = .ok (.iload 4, 2) := by decide +kernel
theorem dc_Mod_draw_379 : decode prog_10_method_14_code 379 = .ok (.iaload, 1) := by decide +kernel
theorem dc_Mod_draw_380 : decode prog_10_method_14_code 380 = .ok (.iload 5, 2) := by decide +kernel
theorem dc_Mod_draw_382 : decode prog_10_method_14_code 382 = .ok (.iconst 0, 1) := by decide +kernel
theorem dc_Mod_draw_383 : decode prog_10_method_14_code 383 = .ok (.iconst 0, 1) := by decide +kernel
theorem dc_Mod_draw_384 : decode prog_10_method_14_code 384 = .ok (.invokevirtual 134, 3) := by decide +kernel
theorem dc_Mod_draw_387 : decode prog_10_method_14_code 387 = .ok (.aload_n 0, 1) := by decide +kernel
theorem dc_Mod_draw_388 : decode prog_10_method_14_code 388 = .ok (.getfield 96, 3) := by decide +kernel
theorem dc_Mod_draw_391 : decode prog_10_method_14_code 391 = .ok (.iload 4, 2) := by decide +kernel
theorem dc_Mod_draw_393 : decode prog_10_method_14_code 393 = .ok (.iaload, 1) := by decide +kernel
theorem dc_Mod_draw_394 : decode prog_10_method_14_code 394 = .ok (.istore 6, 2) := by decide +kernel
theorem dc_Mod_draw_396 : decode prog_10_method_14_code 396 = .ok (.iinc 4 (-1), 3) := by decide +kernel
theorem dc_Mod_draw_399 : decode prog_10_method_14_code 399 = .ok (.goto 116, 3) := by decide +kernel
theorem dc_Mod_draw_402 : decode prog_10_method_14_code 402 = .ok (.iload 8, 2) := by decide +kernel
theorem dc_Mod_draw_404 : decode prog_10_method_14_code 404 = .ok (.bipush 93, 2) := by decide +kernel
theorem dc_Mod_draw_406 : decode prog_10_method_14_code 406 = .ok (.if_icmp .ne 12, 3) := by decide +kernel
theorem dc_Mod_draw_409 : decode prog_10_method_14_code 409 = .ok (.aload_n 0, 1) := by decide +kernel
theorem dc_Mod_draw_410 : decode prog_10_method_14_code 410 = .ok (.iload 7, 2) := by decide +kernel
theorem dc_Mod_draw_412 : decode prog_10_method_14_code 412 = .ok (.invokevirtual 127, 3) := by decide +kernel
theorem dc_Mod_draw_415 : decode prog_10_method_14_code 415 = .ok (.goto 100, 3) := by decide +kernel
theorem dc_Mod_draw_418 : decode prog_10_method_14_code 418 = .ok (.aload_n 0, 1) := by decide +kernel
theorem dc_Mod_draw_419 : decode prog_10_method_14_code 419 = .ok (.invokevirtual 130, 3) := by decide +kernel
theorem dc_Mod_draw_422 : decode prog_10_method_14_code 422 = .ok (.istore 6, 2) := by decide +kernel
theorem dc_Mod_draw_424 : decode prog_10_method_14_code 424 = .ok (.aload_n 0, 1) := by decide +kernel
theorem dc_Mod_draw_425 : decode prog_10_method_14_code 425 = .ok (.iload 5, 2) := by decide +kernel
theorem dc_Mod_draw_427 : decode prog_10_method_14_code 427 = .ok (.iload 6, 2) := by decide +kernel
theorem dc_Mod_draw_429 : decode prog_10_method_14_code 429 = .ok (.iconst 0, 1) := by decide +kernel
theorem dc_Mod_draw_430 : decode prog_10_method_14_code 430 = .ok (.iconst 0, 1) := by decide +kernel
theorem dc_Mod_draw_431 : decode prog_10_method_14_code 431 = .ok (.invokevirtual 134, 3) := by decide +kernel
theorem dc_Mod_draw_434 : decode prog_10_method_14_code 434 = .ok (.aload_n 0, 1) := by decide +kernel
theorem dc_Mod_draw_435 : decode prog_10_method_14_code 435 = .ok (.invokevirtual 130, 3) := by decide +kernel
theorem dc_Mod_draw_438 : decode prog_10_method_14_code 438 = .ok (.istore 5, 2) := by decide +kernel
theorem dc_Mod_draw_440 : decode prog_10_method_14_code 440 = .ok (.aload_n 0, 1) := by decide +kernel
theorem dc_Mod_draw_441 : decode prog_10_method_14_code 441 = .ok (.iload 6, 2) := by decide +kernel
theorem dc_Mod_draw_443 : decode prog_10_method_14_code 443 = .ok (.iload 5, 2) := by decide +kernel
theorem dc_Mod_draw_445 : decode prog_10_method_14_code 445 = .ok (.iload 8, 2) := by decide +kernel
theorem dc_Mod_draw_447 : decode prog_10_method_14_code 447 = .ok (.bipush 94, 2) := by decide +kernel
theorem dc_Mod_draw_449 : decode prog_10_method_14_code 449 = .ok (.if_icmp .ne 7, 3) := by decide +kernel
theorem dc_Mod_draw_452 : decode prog_10_method_14_code 452 = .ok (.iconst 1, 1) := by decide +kernel
theorem dc_Mod_draw_453 : decode prog_10_method_14_code 453 = .ok (.goto 15, 3) := by decide +kernel
theorem dc_Mod_draw_456 : decode prog_10_method_14_code 456 = .ok (.iload 8, 2) := by decide +kernel
theorem dc_Mod_draw_458 : decode prog_10_method_14_code 458 = .ok (.bipush 36, 2) := by decide +kernel
theorem dc_Mod_draw_460 : decode prog_10_method_14_code 460 = .ok (.if_icmp .ne 7, 3) := by decide +kernel
theorem dc_Mod_draw_463 : decode prog_10_method_14_code 463 = .ok (.iconst 2, 1) := by decide +kernel
theorem dc_Mod_draw_464 : decode prog_10_method_14_code 464 = .ok (.goto 4, 3) := by decide +kernel
theorem dc_Mod_draw_467 : decode prog_10_method_14_code 467 = .ok (.iconst 3, 1) := by decide +kernel
theorem dc_Mod_draw_468 : decode prog_10_method_14_code 468 = .ok (.iload 7, 2) := by decide +kernel
theorem dc_Mod_draw_470 : decode prog_10_method_14_code 470 = .ok (.invokevirtual 134, 3) := by decide +kernel
theorem dc_Mod_draw_473 : decode prog_10_method_14_code 473 = .ok (.iload 8, 2) := by decide +kernel
theorem dc_Mod_draw_475 : decode prog_10_method_14_code 475 = .ok (.bipush 92, 2) := by decide +kernel
theorem dc_Mod_draw_477 : decode prog_10_method_14_code 477 = .ok (.if_icmp .ne 20, 3) := by decide +kernel
theorem dc_Mod_draw_480 : decode prog_10_method_14_code 480 = .ok (.iinc 7 1, 3) := by decide +kernel
theorem dc_Mod_draw_483 : decode prog_10_method_14_code 483 = .ok (.iload 7, 2) := by decide +kernel
theorem dc_Mod_draw_485 : decode prog_10_method_14_code 485 = .ok (.iload_n 3, 1) := by decide +kernel
theorem dc_Mod_draw_486 : decode prog_10_method_14_code 486 = .ok (.if_icmp .lt 29, 3) := by decide +kernel
theorem dc_Mod_draw_489 : decode prog_10_method_14_code 489 = .ok (.aload_n 0, 1) := by decide +kernel
theorem dc_Mod_draw_490 : decode prog_10_method_14_code 490 = .ok (.iload_n 3, 1) := by decide +kernel
theorem dc_Mod_draw_491 : decode prog_10_method_14_code 491 = .ok (.invokevirtual 127, 3) := by decide +kernel
theorem dc_Mod_draw_494 : decode prog_10_method_14_code 494 = .ok (.goto 21, 3) := by decide +kernel
theorem dc_Mod_draw_497 : decode prog_10_method_14_code 497 = .ok (.iload 8, 2) := by decide +kernel
theorem dc_Mod_draw_499 : decode prog_10_method_14_code 499 = .ok (.bipush 91, 2) := by decide +kernel
theorem dc_Mod_draw_501 : decode prog_10_method_14_code 501 = .ok (.if_icmp .ne 14, 3) := by decide +kernel
theorem dc_Mod_draw_504 : decode prog_10_method_14_code 504 = .ok (.aload_n 0, 1) := by decide +kernel
theorem dc_Mod_draw_505 : decode prog_10_method_14_code 505 = .ok (.iload 7, 2) := by decide +kernel
theorem dc_Mod_draw_507 : decode prog_10_method_14_code 507 = .ok (.iconst 1, 1) := by decide +kernel
theorem dc_Mod_draw_508 : decode prog_10_method_14_code 508 = .ok (.iadd, 1) := by decide +kernel
theorem dc_Mod_draw_509 : decode prog_10_method_14_code 509 = .ok (.iload_n 3, 1) := by decide +kernel
theorem dc_Mod_draw_510 : decode prog_10_method_14_code 510 = .ok (.invokevirtual 138, 3) := by decide +kernel
theorem dc_Mod_draw_513 : decode prog_10_method_14_code 513 = .ok (.istore 7, 2) := by decide +kernel
theorem dc_Mod_draw_515 : decode prog_10_method_14_code 515 = .ok (.iinc 7 1, 3) := by decide +kernel
theorem dc_Mod_draw_518 : decode prog_10_method_14_code 518 = .ok (.goto (-451), 3) := by decide +kernel
theorem dc_Mod_draw_521 : decode prog_10_method_14_code 521 = .ok (.aload_n 0, 1) := by decide +kernel
theorem dc_Mod_draw_522 : decode prog_10_method_14_code 522 = .ok (.getfield 120, 3) := by decide +kernel
theorem dc_Mod_draw_525 : decode prog_10_method_14_code 525 = .ok (.iconst (-1), 1) := by decide +kernel
theorem dc_Mod_draw_526 : decode prog_10_method_14_code 526 = .ok (.if_icmp .ne 13, 3) := by decide +kernel
theorem dc_Mod_draw_529 : decode prog_10_method_14_code 529 = .ok (.iload 4, 2) := by decide +kernel
theorem dc_Mod_draw_531 : decode prog_10_method_14_code 531 = .ok (.ifCond .le 8, 3) := by decide +kernel
theorem dc_Mod_draw_534 : decode prog_10_method_14_code 534 = .ok (.aload_n 0, 1) := by decide +kernel
theorem dc_Mod_draw_535 : decode prog_10_method_14_code 535 = .ok (.iload_n 3, 1) := by decide +kernel
theorem dc_Mod_draw_536 : decode prog_10_method_14_code 536 = .ok (.invokevirtual 127, 3) := by decide +kernel
theorem dc_Mod_draw_539 : decode prog_10_method_14_code 539 = .ok (.aload_n 0, 1) := by decide +kernel
theorem dc_Mod_draw_540 : decode prog_10_method_14_code 540 = .ok (.iload 5, 2) := by decide +kernel
theorem dc_Mod_draw_542 : decode prog_10_method_14_code 542 = .ok (.iconst 1, 1) := by decide +kernel
theorem dc_Mod_draw_543 : decode prog_10_method_14_code 543 = .ok (.iconst 0, 1) := by decide +kernel
theorem dc_Mod_draw_544 : decode prog_10_method_14_code 544 = .ok (.iconst 0, 1) := by decide +kernel
theorem dc_Mod_draw_545 : decode prog_10_method_14_code 545 = .ok (.invokevirtual 134, 3) := by decide +kernel
theorem dc_Mod_draw_548 : decode prog_10_method_14_code 548 = .ok (.aload_n 0, 1) := by decide +kernel
theorem dc_Mod_draw_549 : decode prog_10_method_14_code 549 = .ok (.aload_n 0, 1) := by decide +kernel
theorem dc_Mod_draw_550 : decode prog_10_method_14_code 550 = .ok (.getfield 120, 3) := by decide +kernel
theorem dc_Mod_draw_553 : decode prog_10_method_14_code 553 = .ok (.iconst (-1), 1) := by decide +kernel
theorem dc_Mod_draw_554 : decode prog_10_method_14_code 554 = .ok (.if_icmp .ne 7, 3) := by decide +kernel
theorem dc_Mod_draw_557 : decode prog_10_method_14_code 557 = .ok (.iconst (-1), 1) := by decide +kernel
theorem dc_Mod_draw_558 : decode prog_10_method_14_code 558 = .ok (.goto 9, 3) := by decide +kernel
theorem dc_Mod_draw_561 : decode prog_10_method_14_code 561 = .ok (.aload_n 0, 1) := by decide +kernel
theorem dc_Mod_draw_562 : decode prog_10_method_14_code 562 = .ok (.getfield 120, 3) := by decide +kernel
theorem dc_Mod_draw_565 : decode prog_10_method_14_code 565 = .ok (.iload_n 2, 1) := by decide +kernel
theorem dc_Mod_draw_566 : decode prog_10_method_14_code 566 = .ok (.isub, 1) := by decide +kernel
theorem dc_Mod_draw_567 : decode prog_10_method_14_code 567 = .ok (.putfield 120, 3) := by decide +kernel
theorem dc_Mod_draw_570 : decode prog_10_method_14_code 570 = .ok (.return_, 1) := by decide +kernel
theorem dc_Mod_isSign_0 : decode prog_10_method_15_code 0 = .ok (.aload_n 0, 1) := by decide +kernel
theorem dc_Mod_isSign_1 : decode prog_10_method_15_code 1 = .ok (.getfield 16, 3) := by decide +kernel
theorem dc_Mod_isSign_4 : decode prog_10_method_15_code 4 = .ok (.iload_n 1, 1) := by decide +kernel
theorem dc_Mod_isSign_5 : decode prog_10_method_15_code 5 = .ok (.iaload, 1) := by decide +kernel
theorem dc_Mod_isSign_6 : decode prog_10_method_15_code 6 = .ok (.istore_n 3, 1) := by decide +kernel
theorem dc_Mod_isSign_7 : decode prog_10_method_15_code 7 = .ok (.iload_n 3, 1) := by decide +kernel
theorem dc_Mod_isSign_8 : decode prog_10_method_15_code 8 = .ok (.bipush 46, 2) := by decide +kernel
theorem dc_Mod_isSign_10 : decode prog_10_method_15_code 10 = .ok (.if_icmp .ne 5, 3) := by decide +kernel
theorem dc_Mod_isSign_13 : decode prog_10_method_15_code 13 = .ok (.iconst 1, 1) := by decide +kernel
theorem dc_Mod_isSign_14 : decode prog_10_method_15_code 14 = .ok (.ireturn, 1) := by decide +kernel
theorem dc_Mod_isSign_15 : decode prog_10_method_15_code 15 = .ok (.iload_n 3, 1) := by decide +kernel
theorem dc_Mod_isSign_16 : decode prog_10_method_15_code 16 = .ok (.bipush 92, 2) := by decide +kernel
theorem dc_Mod_isSign_18 : decode prog_10_method_15_code 18 = .ok (.if_icmp .ne 21, 3) := by decide +kernel
theorem dc_Mod_isSign_21 : decode prog_10_method_15_code 21 = .ok (.aload_n 0, 1) := by decide +kernel
theorem dc_Mod_isSign_22 : decode prog_10_method_15_code 22 = .ok (.getfield 16, 3) := by decide +kernel
theorem dc_Mod_isSign_25 : decode prog_10_method_15_code 25 = .ok (.iload_n 1, 1) := by decide +kernel
theorem dc_Mod_isSign_26 : decode prog_10_method_15_code 26 = .ok (.iconst 1, 1) := by decide +kernel
theorem dc_Mod_isSign_27 : decode prog_10_method_15_code 27 = .ok (.iadd, 1) := by decide +kernel
theorem dc_Mod_isSign_28 : decode prog_10_method_15_code 28 = .ok (.iaload, 1) := by decide +kernel
theorem dc_Mod_isSign_29 : decode prog_10_method_15_code 29 = .ok (.iload_n 2, 1) := by decide +kernel
theorem dc_Mod_isSign_30 : decode prog_10_method_15_code 30 = .ok (.if_icmp .ne 7, 3) := by decide +kernel
theorem dc_Mod_isSign_33 : decode prog_10_method_15_code 33 = .ok (.iconst 1, 1) := by decide +kernel
theorem dc_Mod_isSign_34 : decode prog_10_method_15_code 34 = .ok (.goto 4, 3) := by decide +kernel
theorem dc_Mod_isSign_37 : decode prog_10_method_15_code 37 = .ok (.iconst 0, 1) := by decide +kernel
theorem dc_Mod_isSign_38 : decode prog_10_method_15_code 38 = .ok (.ireturn, 1) := by decide +kernel
theorem dc_Mod_isSign_39 : decode prog_10_method_15_code 39 = .ok (.iload_n 3, 1) := by decide +kernel
theorem dc_Mod_isSign_40 : decode prog_10_method_15_code 40 = .ok (.bipush 91, 2) := by decide +kernel
theorem dc_Mod_isSign_42 : decode prog_10_method_15_code 42 = .ok (.if_icmp .eq 14, 3) := by decide +kernel
theorem dc_Mod_isSign_45 : decode prog_10_method_15_code 45 = .ok (.iload_n 3, 1) := by decide +kernel
theorem dc_Mod_isSign_46 : decode prog_10_method_15_code 46 = .ok (.iload_n 2, 1) := by decide +kernel
theorem dc_Mod_isSign_47 : decode prog_10_method_15_code 47 = .ok (.if_icmp .ne 7, 3) := by decide +kernel
theorem dc_Mod_isSign_50 : decode prog_10_method_15_code 50 = .ok (.iconst 1, 1) := by decide +kernel
theorem dc_Mod_isSign_51 : decode prog_10_method_15_code 51 = .ok (.goto 4, 3) := by decide +kernel
theorem dc_Mod_isSign_54 : decode prog_10_method_15_code 54 = .ok (.iconst 0, 1) := by decide +kernel
theorem dc_Mod_isSign_55 : decode prog_10_method_15_code 55 = .ok (.ireturn, 1) := by decide +kernel
theorem dc_Mod_isSign_56 : decode prog_10_method_15_code 56 = .ok (.aload_n 0, 1) := by decide +kernel
theorem dc_Mod_isSign_57 : decode prog_10_method_15_code 57 = .ok (.getfield 16, 3) := by decide +kernel
theorem dc_Mod_isSign_60 : decode prog_10_method_15_code 60 = .ok (.iload_n 1, 1) := by decide +kernel
theorem dc_Mod_isSign_61 : decode prog_10_method_15_code 61 = .ok (.iconst 1, 1) := by decide +kernel
theorem dc_Mod_isSign_62 : decode prog_10_method_15_code 62 = .ok (.iadd, 1) := by decide +kernel
theorem dc_Mod_isSign_63 : decode prog_10_method_15_code 63 = .ok (.iaload, 1) := by decide +kernel
theorem dc_Mod_isSign_64 : decode prog_10_method_15_code 64 = .ok (.bipush 94, 2) := by decide +kernel
theorem dc_Mod_isSign_66 : decode prog_10_method_15_code 66 = .ok (.if_icmp .ne 7, 3) := by decide +kernel
theorem dc_Mod_isSign_69 : decode prog_10_method_15_code 69 = .ok (.iconst 1, 1) := by decide +kernel
theorem dc_Mod_isSign_70 : decode prog_10_method_15_code 70 = .ok (.goto 4, 3) := by decide +kernel
theorem dc_Mod_isSign_73 : decode prog_10_method_15_code 73 = .ok (.iconst 0, 1) := by decide +kernel
theorem dc_Mod_isSign_74 : decode prog_10_method_15_code 74 = .ok (.istore 4, 2) := by decide +kernel
theorem dc_Mod_isSign_76 : decode prog_10_method_15_code 76 = .ok (.iload 4, 2) := by decide +kernel
theorem dc_Mod_isSign_78 : decode prog_10_method_15_code 78 = .ok (.ifCond .eq 9, 3) := by decide +kernel
theorem dc_Mod_isSign_81 : decode prog_10_method_15_code 81 = .ok (.iload_n 1, 1) := by decide +kernel
theorem dc_Mod_isSign_82 : decode prog_10_method_15_code 82 = .ok (.iconst 2, 1) := by decide +kernel
theorem dc_Mod_isSign_83 : decode prog_10_method_15_code 83 = .ok (.iadd, 1) := by decide +kernel
theorem dc_Mod_isSign_84 : decode prog_10_method_15_code 84 = .ok (.goto 6, 3) := by decide +kernel
theorem dc_Mod_isSign_87 : decode prog_10_method_15_code 87 = .ok (.iload_n 1, 1) := by decide +kernel
theorem dc_Mod_isSign_88 : decode prog_10_method_15_code 88 = .ok (.iconst 1, 1) := by decide +kernel
theorem dc_Mod_isSign_89 : decode prog_10_method_15_code 89 = .ok (.iadd, 1) := by decide +kernel
theorem dc_Mod_isSign_90 : decode prog_10_method_15_code 90 = .ok (.istore 5, 2) := by decide +kernel
theorem dc_Mod_isSign_92 : decode prog_10_method_15_code 92 = .ok (.iconst 0, 1) := by decide +kernel
theorem dc_Mod_isSign_93 : decode prog_10_method_15_code 93 = .ok (.istore 6, 2) := by decide +kernel
theorem dc_Mod_isSign_95 : decode prog_10_method_15_code 95 = .ok (.aload_n 0, 1) := by decide +kernel
theorem dc_Mod_isSign_96 : decode prog_10_method_15_code 96 = .ok (.getfield 16, 3) := by decide +kernel
theorem dc_Mod_isSign_99 : decode prog_10_method_15_code 99 = .ok (.iload 5, 2) := by decide +kernel
theorem dc_Mod_isSign_101 : decode prog_10_method_15_code 101 = .ok (.iaload, 1) := by decide +kernel
theorem dc_Mod_isSign_102 : decode prog_10_method_15_code 102 = .ok (.bipush 93, 2) := by decide +kernel
theorem dc_Mod_isSign_104 : decode prog_10_method_15_code 104 = .ok (.if_icmp .eq 99, 3) := by decide +kernel
theorem dc_Mod_isSign_107 : decode prog_10_method_15_code 107 = .ok (.aload_n 0, 1) := by decide +kernel
theorem dc_Mod_isSign_108 : decode prog_10_method_15_code 108 = .ok (.getfield 16, 3) := by decide +kernel
theorem dc_Mod_isSign_111 : decode prog_10_method_15_code 111 = .ok (.iload 5, 2) := by decide +kernel
theorem dc_Mod_isSign_113 : decode prog_10_method_15_code 113 = .ok (.iaload, 1) := by decide +kernel
theorem dc_Mod_isSign_114 : decode prog_10_method_15_code 114 = .ok (.istore 7, 2) := by decide +kernel
theorem dc_Mod_isSign_116 : decode prog_10_method_15_code 116 = .ok (.aload_n 0, 1) := by decide +kernel
theorem dc_Mod_isSign_117 : decode prog_10_method_15_code 117 = .ok (.getfield 16, 3) := by decide +kernel
theorem dc_Mod_isSign_120 : decode prog_10_method_15_code 120 = .ok (.iload 5, 2) := by decide +kernel
theorem dc_Mod_isSign_122 : decode prog_10_method_15_code 122 = .ok (.iconst 1, 1) := by decide +kernel
theorem dc_Mod_isSign_123 : decode prog_10_method_15_code 123 = .ok (.iadd, 1) := by decide +kernel
theorem dc_Mod_isSign_124 : decode prog_10_method_15_code 124 = .ok (.iaload, 1) := by decide +kernel
theorem dc_Mod_isSign_125 : decode prog_10_method_15_code 125 = .ok (.bipush 45, 2) := by decide +kernel
theorem dc_Mod_isSign_127 : decode prog_10_method_15_code 127 = .ok (.if_icmp .ne 7, 3) := by decide +kernel
theorem dc_Mod_isSign_130 : decode prog_10_method_15_code 130 = .ok (.iconst 1, 1) := by decide +kernel
theorem dc_Mod_isSign_131 : decode prog_10_method_15_code 131 = .ok (.goto 4, 3) := by decide +kernel
theorem dc_Mod_isSign_134 : decode prog_10_method_15_code 134 = .ok (.iconst 0, 1) := by decide +kernel
theorem dc_Mod_isSign_135 : decode prog_10_method_15_code 135 = .ok (.istore 8, 2) := by decide +kernel
theorem dc_Mod_isSign_137 : decode prog_10_method_15_code 137 = .ok (.iload 8, 2) := by decide +kernel
theorem dc_Mod_isSign_139 : decode prog_10_method_15_code 139 = .ok (.ifCond .eq 15, 3) := by decide +kernel
theorem dc_Mod_isSign_142 : decode prog_10_method_15_code 142 = .ok (.aload_n 0, 1) := by decide +kernel
theorem dc_Mod_isSign_143 : decode prog_10_method_15_code 143 = .ok (.getfield 16, 3) := by decide +kernel
theorem dc_Mod_isSign_146 : decode prog_10_method_15_code 146 = .ok (.iload 5, 2) := by decide +kernel
theorem dc_Mod_isSign_148 : decode prog_10_method_15_code 148 = .ok (.iconst 2, 1) := by decide +kernel
theorem dc_Mod_isSign_149 : decode prog_10_method_15_code 149 = .ok (.iadd, 1) := by decide +kernel
theorem dc_Mod_isSign_150 : decode prog_10_method_15_code 150 = .ok (.iaload, 1) := by decide +kernel
theorem dc_Mod_isSign_151 : decode prog_10_method_15_code 151 = .ok (.goto 5, 3) := by decide +kernel
theorem dc_Mod_isSign_154 : decode prog_10_method_15_code 154 = .ok (.iload 7, 2) := by decide +kernel
theorem dc_Mod_isSign_156 : decode prog_10_method_15_code 156 = .ok (.istore 9, 2) := by decide +kernel
theorem dc_Mod_isSign_158 : decode prog_10_method_15_code 158 = .ok (.iload 6, 2) := by decide +kernel
theorem dc_Mod_isSign_160 : decode prog_10_method_15_code 160 = .ok (.ifCond .ne 15, 3) := by decide +kernel
theorem dc_Mod_isSign_163 : decode prog_10_method_15_code 163 = .ok (.iload_n 2, 1) := by decide +kernel
theorem dc_Mod_isSign_164 : decode prog_10_method_15_code 164 = .ok (.iload 7, 2) := by decide +kernel
theorem dc_Mod_isSign_166 : decode prog_10_method_15_code 166 = .ok (.if_icmp .lt 13, 3) := by decide +kernel
theorem dc_Mod_isSign_169 : decode prog_10_method_15_code 169 = .ok (.iload_n 2, 1) := by decide +kernel
theorem dc_Mod_isSign_170 : decode prog_10_method_15_code 170 = .ok (.iload 9, 2) := by decide +kernel
theorem dc_Mod_isSign_172 : decode prog_10_method_15_code 172 = .ok (.if_icmp .gt 7, 3) := by decide +kernel
theorem dc_Mod_isSign_175 : decode prog_10_method_15_code 175 = .ok (.iconst 1, 1) := by decide +kernel
theorem dc_Mod_isSign_176 : decode prog_10_method_15_code 176 = .ok (.goto 4, 3) := by decide +kernel
theorem dc_Mod_isSign_179 : decode prog_10_method_15_code 179 = .ok (.iconst 0, 1) := by decide +kernel
theorem dc_Mod_isSign_180 : decode prog_10_method_15_code 180 = .ok (.istore 6, 2) := by decide +kernel
theorem dc_Mod_isSign_182 : decode prog_10_method_15_code 182 = .ok (.iload 8, 2) := by decide +kernel
theorem dc_Mod_isSign_184 : decode prog_10_method_15_code 184 = .ok (.ifCond .eq 10, 3) := by decide +kernel
theorem dc_Mod_isSign_187 : decode prog_10_method_15_code 187 = .ok (.iload 5, 2) := by decide +kernel
theorem dc_Mod_isSign_189 : decode prog_10_method_15_code 189 = .ok (.iconst 3, 1) := by decide +kernel
theorem dc_Mod_isSign_190 : decode prog_10_method_15_code 190 = .ok (.iadd, 1) := by decide +kernel
theorem dc_Mod_isSign_191 : decode prog_10_method_15_code 191 = .ok (.goto 7, 3) := by decide +kernel
theorem dc_Mod_isSign_194 : decode prog_10_method_15_code 194 = .ok (.iload 5, 2) := by decide +kernel
theorem dc_Mod_isSign_196 : decode prog_10_method_15_code 196 = .ok (.iconst 1, 1) := by decide +kernel
theorem dc_Mod_isSign_197 : decode prog_10_method_15_code 197 = .ok (.iadd, 1) := by decide +kernel
theorem dc_Mod_isSign_198 : decode prog_10_method_15_code 198 = .ok (.istore 5, 2) := by decide +kernel
theorem dc_Mod_isSign_200 : decode prog_10_method_15_code 200 = .ok (.goto (-105), 3) := by decide +kernel
theorem dc_Mod_isSign_203 : decode prog_10_method_15_code 203 = .ok (.iload 6, 2) := by decide +kernel
theorem dc_Mod_isSign_205 : decode prog_10_method_15_code 205 = .ok (.iload 4, 2) := by decide +kernel
theorem dc_Mod_isSign_207 : decode prog_10_method_15_code 207 = .ok (.if_icmp .eq 7, 3) := by decide +kernel
theorem dc_Mod_isSign_210 : decode prog_10_method_15_code 210 = .ok (.iconst 1, 1) := by decide +kernel
theorem dc_Mod_isSign_211 : decode prog_10_method_15_code 211 = .ok (.goto 4, 3) := by decide +kernel
theorem dc_Mod_isSign_214 : decode prog_10_method_15_code 214 = .ok (.iconst 0, 1) := by decide +kernel
theorem dc_Mod_isSign_215 : decode prog_10_method_15_code 215 = .ok (.ireturn, 1) := by decide +kernel
