theorem dc_Mod_copyKey_0 : decode prog_10_method_37_code 0 = .ok (.aload_n 0, 1) := by decide +kernel
theorem dc_Mod_copyKey_1 : decode prog_10_method_37_code 1 = .ok (.getfield 59, 3) := by decide +kernel
theorem dc_Mod_copyKey_4 : decode prog_10_method_37_code 4 = .ok (.iload_n 2, 1) := by decide +kernel
theorem dc_Mod_copyKey_5 : decode prog_10_method_37_code 5 = .ok (.aload_n 0, 1) := by decide +kernel
theorem dc_Mod_copyKey_6 : decode prog_10_method_37_code 6 = .ok (.getfield 59, 3) := by decide +kernel
theorem dc_Mod_copyKey_9 : decode prog_10_method_37_code 9 = .ok (.iload_n 1, 1) := by decide +kernel
theorem dc_Mod_copyKey_10 : decode prog_10_method_37_code 10 = .ok (.iaload, 1) := by decide +kernel
theorem dc_Mod_copyKey_11 : decode prog_10_method_37_code 11 = .ok (.iastore, 1) := by decide +kernel
theorem dc_Mod_copyKey_12 : decode prog_10_method_37_code 12 = .ok (.aload_n 0, 1) := by decide +kernel
theorem dc_Mod_copyKey_13 : decode prog_10_method_37_code 13 = .ok (.getfield 62, 3) := by decide +kernel
theorem dc_Mod_copyKey_16 : decode prog_10_method_37_code 16 = .ok (.iload_n 2, 1) := by decide +kernel
theorem dc_Mod_copyKey_17 : decode prog_10_method_37_code 17 = .ok (.aload_n 0, 1) := by decide +kernel
theorem dc_Mod_copyKey_18 : decode prog_10_method_37_code 18 = .ok (.getfield 62, 3) := by decide +kernel
theorem dc_Mod_copyKey_21 : decode prog_10_method_37_code 21 = .ok (.iload_n 1, 1) := by decide +kernel
theorem dc_Mod_copyKey_22 : decode prog_10_method_37_code 22 = .ok (.iaload, 1) := by decide +kernel
theorem dc_Mod_copyKey_23 : decode prog_10_method_37_code 23 = .ok (.iastore, 1) := by decide +kernel
theorem dc_Mod_copyKey_24 : decode prog_10_method_37_code 24 = .ok (.iconst 0, 1) := by decide +kernel
theorem dc_Mod_copyKey_25 : decode prog_10_method_37_code 25 = .ok (.istore_n 3, 1) := by decide +kernel
theorem dc_Mod_copyKey_26 : decode prog_10_method_37_code 26 = .ok (.iload_n 3, 1) := by decide +kernel
theorem dc_Mod_copyKey_27 : decode prog_10_method_37_code 27 = .ok (.aload_n 0, 1) := by decide +kernel
theorem dc_Mod_copyKey_28 : decode prog_10_method_37_code 28 = .ok (.getfield 59, 3) := by decide +kernel
theorem dc_Mod_copyKey_31 : decode prog_10_method_37_code 31 = .ok (.iload_n 1, 1) := by decide +kernel
theorem dc_Mod_copyKey_32 : decode prog_10_method_37_code 32 = .ok (.iaload, 1) := by decide +kernel
theorem dc_Mod_copyKey_33 : decode prog_10_method_37_code 33 = .ok (.if_icmp .ge 31, 3) := by decide +kernel
theorem dc_Mod_copyKey_36 : decode prog_10_method_37_code 36 = .ok (.aload_n 0, 1) := by decide +kernel
theorem dc_Mod_copyKey_37 : decode prog_10_method_37_code 37 = .ok (.getfield 56, 3) := by decide +kernel
theorem dc_Mod_copyKey_40 : decode prog_10_method_37_code 40 = .ok (.bipush 120, 2) := by decide +kernel
theorem dc_Mod_copyKey_42 : decode prog_10_method_37_code 42 = .ok (.iload_n 2, 1) := by decide +kernel
theorem dc_Mod_copyKey_43 : decode prog_10_method_37_code 43 = .ok (.imul, 1) := by decide +kernel
theorem dc_Mod_copyKey_44 : decode prog_10_method_37_code 44 = .ok (.iload_n 3, 1) := by decide +kernel
theorem dc_Mod_copyKey_45 : decode prog_10_method_37_code 45 = .ok (.iadd, 1) := by decide +kernel
theorem dc_Mod_copyKey_46 : decode prog_10_method_37_code 46 = .ok (.aload_n 0, 1) := by decide +kernel
theorem dc_Mod_copyKey_47 : decode prog_10_method_37_code 47 = .ok (.getfield 56, 3) := by decide +kernel
theorem dc_Mod_copyKey_50 : decode prog_10_method_37_code 50 = .ok (.bipush 120, 2) := by decide +kernel
theorem dc_Mod_copyKey_52 : decode prog_10_method_37_code 52 = .ok (.iload_n 1, 1) := by decide +kernel
theorem dc_Mod_copyKey_53 : decode prog_10_method_37_code 53 = .ok (.imul, 1) := by decide +kernel
theorem dc_Mod_copyKey_54 : decode prog_10_method_37_code 54 = .ok (.iload_n 3, 1) := by decide +kernel
theorem dc_Mod_copyKey_55 : decode prog_10_method_37_code 55 = .ok (.iadd, 1) := by decide +kernel
theorem dc_Mod_copyKey_56 : decode prog_10_method_37_code 56 = .ok (.iaload, 1) := by decide +kernel
theorem dc_Mod_copyKey_57 : decode prog_10_method_37_code 57 = .ok (.iastore, 1) := by decide +kernel
theorem dc_Mod_copyKey_58 : decode prog_10_method_37_code 58 = .ok (.iinc 3 1, 3) := by decide +kernel
theorem dc_Mod_copyKey_61 : decode prog_10_method_37_code 61 = .ok (.goto (-35), 3) := by decide +kernel
theorem dc_Mod_copyKey_64 : decode prog_10_method_37_code 64 = .ok (.return_, 1) := by decide +kernel
theorem dc_Mod_grow_0 : decode prog_10_method_38_code 0 = .ok (.iconst 0, 1) := by decide +kernel
theorem dc_Mod_grow_1 : decode prog_10_method_38_code 1 = .ok (.istore_n 3, 1) := by decide +kernel
theorem dc_Mod_grow_2 : decode prog_10_method_38_code 2 = .ok (.iload_n 3, 1) := by decide +kernel
theorem dc_Mod_grow_3 : decode prog_10_method_38_code 3 = .ok (.aload_n 0, 1) := by decide +kernel
theorem dc_Mod_grow_4 : decode prog_10_method_38_code 4 = .ok (.getfield 200, 3) := by decide +kernel
theorem dc_Mod_grow_7 : decode prog_10_method_38_code 7 = .ok (.if_icmp .ge 18, 3) := by decide +kernel
theorem dc_Mod_grow_10 : decode prog_10_method_38_code 10 = .ok (.aload_n 0, 1) := by decide +kernel
theorem dc_Mod_grow_11 : decode prog_10_method_38_code 11 = .ok (.iload_n 1, 1) := by decide +kernel
theorem dc_Mod_grow_12 : decode prog_10_method_38_code 12 = .ok (.iload_n 3, 1) := by decide +kernel
theorem dc_Mod_grow_13 : decode prog_10_method_38_code 13 = .ok (.invokevirtual 203, 3) := by decide +kernel
theorem dc_Mod_grow_16 : decode prog_10_method_38_code 16 = .ok (.ifCond .le 9, 3) := by decide +kernel
theorem dc_Mod_grow_19 : decode prog_10_method_38_code 19 = .ok (.iinc 3 1, 3) := by decide +kernel
theorem dc_Mod_grow_22 : decode prog_10_method_38_code 22 = .ok (.goto (-20), 3) := by decide +kernel
theorem dc_Mod_grow_25 : decode prog_10_method_38_code 25 = .ok (.iload_n 3, 1) := by decide +kernel
theorem dc_Mod_grow_26 : decode prog_10_method_38_code 26 = .ok (.aload_n 0, 1) := by decide +kernel
theorem dc_Mod_grow_27 : decode prog_10_method_38_code 27 = .ok (.getfield 200, 3) := by decide +kernel
theorem dc_Mod_grow_30 : decode prog_10_method_38_code 30 = .ok (.if_icmp .ge 29, 3) := by decide +kernel
theorem dc_Mod_grow_33 : decode prog_10_method_38_code 33 = .ok (.aload_n 0, 1) := by decide +kernel
theorem dc_Mod_grow_34 : decode prog_10_method_38_code 34 = .ok (.iload_n 1, 1) := by decide +kernel
theorem dc_Mod_grow_35 : decode prog_10_method_38_code 35 = .ok (.iload_n 3, 1) := by decide +kernel
theorem dc_Mod_grow_36 : decode prog_10_method_38_code 36 = .ok (.invokevirtual 203, 3) := by decide +kernel
theorem dc_Mod_grow_39 : decode prog_10_method_38_code 39 = .ok (.ifCond .ne 20, 3) := by decide +kernel
theorem dc_Mod_grow_42 : decode prog_10_method_38_code 42 = .ok (.aload_n 0, 1) := by decide +kernel
theorem dc_Mod_grow_43 : decode prog_10_method_38_code 43 = .ok (.getfield 62, 3) := by decide +kernel
theorem dc_Mod_grow_46 : decode prog_10_method_38_code 46 = .ok (.iload_n 3, 1) := by decide +kernel
theorem dc_Mod_grow_47 : decode prog_10_method_38_code 47 = .ok (.aload_n 0, 1) := by decide +kernel
theorem dc_Mod_grow_48 : decode prog_10_method_38_code 48 = .ok (.getfield 62, 3) := by decide +kernel
theorem dc_Mod_grow_51 : decode prog_10_method_38_code 51 = .ok (.iload_n 3, 1) := by decide +kernel
theorem dc_Mod_grow_52 : decode prog_10_method_38_code 52 = .ok (.iaload, 1) := by decide +kernel
theorem dc_Mod_grow_53 : decode prog_10_method_38_code 53 = .ok (.iload_n 2, 1) := by decide +kernel
theorem dc_Mod_grow_54 : decode prog_10_method_38_code 54 = .ok (.iadd, 1) := by decide +kernel
theorem dc_Mod_grow_55 : decode prog_10_method_38_code 55 = .ok (.iastore, 1) := by decide +kernel
theorem dc_Mod_grow_56 : decode prog_10_method_38_code 56 = .ok (.goto 106, 3) := by decide +kernel
theorem dc_Mod_grow_59 : decode prog_10_method_38_code 59 = .ok (.aload_n 0, 1) := by decide +kernel
theorem dc_Mod_grow_60 : decode prog_10_method_38_code 60 = .ok (.getfield 200, 3) := by decide +kernel
theorem dc_Mod_grow_63 : decode prog_10_method_38_code 63 = .ok (.bipush 40, 2) := by decide +kernel
theorem dc_Mod_grow_65 : decode prog_10_method_38_code 65 = .ok (.if_icmp .ge 97, 3) := by decide +kernel
theorem dc_Mod_grow_68 : decode prog_10_method_38_code 68 = .ok (.aload_n 0, 1) := by decide +kernel
theorem dc_Mod_grow_69 : decode prog_10_method_38_code 69 = .ok (.getfield 200, 3) := by decide +kernel
theorem dc_Mod_grow_72 : decode prog_10_method_38_code 72 = .ok (.istore 4, 2) := by decide +kernel
theorem dc_Mod_grow_74 : decode prog_10_method_38_code 74 = .ok (.iload 4, 2) := by decide +kernel
theorem dc_Mod_grow_76 : decode prog_10_method_38_code 76 = .ok (.iload_n 3, 1) := by decide +kernel
theorem dc_Mod_grow_77 : decode prog_10_method_38_code 77 = .ok (.if_icmp .le 19, 3) := by decide +kernel
theorem dc_Mod_grow_80 : decode prog_10_method_38_code 80 = .ok (.aload_n 0, 1) := by decide +kernel
theorem dc_Mod_grow_81 : decode prog_10_method_38_code 81 = .ok (.iload 4, 2) := by decide +kernel
theorem dc_Mod_grow_83 : decode prog_10_method_38_code 83 = .ok (.iconst 1, 1) := by decide +kernel
theorem dc_Mod_grow_84 : decode prog_10_method_38_code 84 = .ok (.isub, 1) := by decide +kernel
theorem dc_Mod_grow_85 : decode prog_10_method_38_code 85 = .ok (.iload 4, 2) := by decide +kernel
theorem dc_Mod_grow_87 : decode prog_10_method_38_code 87 = .ok (.invokevirtual 206, 3) := by decide +kernel
theorem dc_Mod_grow_90 : decode prog_10_method_38_code 90 = .ok (.iinc 4 (-1), 3) := by decide +kernel
theorem dc_Mod_grow_93 : decode prog_10_method_38_code 93 = .ok (.goto (-19), 3) := by decide +kernel
theorem dc_Mod_grow_96 : decode prog_10_method_38_code 96 = .ok (.aload_n 0, 1) := by decide +kernel
theorem dc_Mod_grow_97 : decode prog_10_method_38_code 97 = .ok (.dup, 1) := by decide +kernel
theorem dc_Mod_grow_98 : decode prog_10_method_38_code 98 = .ok (.getfield 200, 3) := by decide +kernel
theorem dc_Mod_grow_101 : decode prog_10_method_38_code 101 = .ok (.iconst 1, 1) := by decide +kernel
theorem dc_Mod_grow_102 : decode prog_10_method_38_code 102 = .ok (.iadd, 1) := by decide +kernel
theorem dc_Mod_grow_103 : decode prog_10_method_38_code 103 = .ok (.putfield 200, 3) := by decide +kernel
theorem dc_Mod_grow_106 : decode prog_10_method_38_code 106 = .ok (.aload_n 0, 1) := by decide +kernel
theorem dc_Mod_grow_107 : decode prog_10_method_38_code 107 = .ok (.getfield 59, 3) := by decide +kernel
theorem dc_Mod_grow_110 : decode prog_10_method_38_code 110 = .ok (.iload_n 3, 1) := by decide +kernel
theorem dc_Mod_grow_111 : decode prog_10_method_38_code 111 = .ok (.aload_n 0, 1) := by decide +kernel
theorem dc_Mod_grow_112 : decode prog_10_method_38_code 112 = .ok (.iload_n 1, 1) := by decide +kernel
theorem dc_Mod_grow_113 : decode prog_10_method_38_code 113 = .ok (.invokevirtual 184, 3) := by decide +kernel
theorem dc_Mod_grow_116 : decode prog_10_method_38_code 116 = .ok (.iastore, 1) := by decide +kernel
theorem dc_Mod_grow_117 : decode prog_10_method_38_code 117 = .ok (.aload_n 0, 1) := by decide +kernel
theorem dc_Mod_grow_118 : decode prog_10_method_38_code 118 = .ok (.getfield 62, 3) := by decide +kernel
theorem dc_Mod_grow_121 : decode prog_10_method_38_code 121 = .ok (.iload_n 3, 1) := by decide +kernel
theorem dc_Mod_grow_122 : decode prog_10_method_38_code 122 = .ok (.iload_n 2, 1) := by decide +kernel
theorem dc_Mod_grow_123 : decode prog_10_method_38_code 123 = .ok (.iastore, 1) := by decide +kernel
theorem dc_Mod_grow_124 : decode prog_10_method_38_code 124 = .ok (.iconst 0, 1) := by decide +kernel
theorem dc_Mod_grow_125 : decode prog_10_method_38_code 125 = .ok (.istore 4, 2) := by decide +kernel
theorem dc_Mod_grow_127 : decode prog_10_method_38_code 127 = .ok (.iload 4, 2) := by decide +kernel
theorem dc_Mod_grow_129 : decode prog_10_method_38_code 129 = .ok (.aload_n 0, 1) := by decide +kernel
theorem dc_Mod_grow_130 : decode prog_10_method_38_code 130 = .ok (.iload_n 1, 1) := by decide +kernel
theorem dc_Mod_grow_131 : decode prog_10_method_38_code 131 = .ok (.invokevirtual 184, 3) := by decide +kernel
theorem dc_Mod_grow_134 : decode prog_10_method_38_code 134 = .ok (.if_icmp .ge 28, 3) := by decide +kernel
theorem dc_Mod_grow_137 : decode prog_10_method_38_code 137 = .ok (.aload_n 0, 1) := by decide +kernel
theorem dc_Mod_grow_138 : decode prog_10_method_38_code 138 = .ok (.getfield 56, 3) := by decide +kernel
theorem dc_Mod_grow_141 : decode prog_10_method_38_code 141 = .ok (.bipush 120, 2) := by decide +kernel
theorem dc_Mod_grow_143 : decode prog_10_method_38_code 143 = .ok (.iload_n 3, 1) := by decide +kernel
theorem dc_Mod_grow_144 : decode prog_10_method_38_code 144 = .ok (.imul, 1) := by decide +kernel
theorem dc_Mod_grow_145 : decode prog_10_method_38_code 145 = .ok (.iload 4, 2) := by decide +kernel
theorem dc_Mod_grow_147 : decode prog_10_method_38_code 147 = .ok (.iadd, 1) := by decide +kernel
theorem dc_Mod_grow_148 : decode prog_10_method_38_code 148 = .ok (.aload_n 0, 1) := by decide +kernel
theorem dc_Mod_grow_149 : decode prog_10_method_38_code 149 = .ok (.iload_n 1, 1) := by decide +kernel
theorem dc_Mod_grow_150 : decode prog_10_method_38_code 150 = .ok (.iload 4, 2) := by decide +kernel
theorem dc_Mod_grow_152 : decode prog_10_method_38_code 152 = .ok (.invokevirtual 187, 3) := by decide +kernel
theorem dc_Mod_grow_155 : decode prog_10_method_38_code 155 = .ok (.iastore, 1) := by decide +kernel
theorem dc_Mod_grow_156 : decode prog_10_method_38_code 156 = .ok (.iinc 4 1, 3) := by decide +kernel
theorem dc_Mod_grow_159 : decode prog_10_method_38_code 159 = .ok (.goto (-32), 3) := by decide +kernel
theorem dc_Mod_grow_162 : decode prog_10_method_38_code 162 = .ok (.return_, 1) := by decide +kernel
theorem dc_Mod_write_0 : decode prog_10_method_39_code 0 = .ok (.aload_n 0, 1) := by decide +kernel
theorem dc_Mod_write_1 : decode prog_10_method_39_code 1 = .ok (.getfield 13, 3) := by decide +kernel
theorem dc_Mod_write_4 : decode prog_10_method_39_code 4 = .ok (.iconst 1, 1) := by decide +kernel
theorem dc_Mod_write_5 : decode prog_10_method_39_code 5 = .ok (.iaload, 1) := by decide +kernel
theorem dc_Mod_write_6 : decode prog_10_method_39_code 6 = .ok (.bipush 120, 2) := by decide +kernel
theorem dc_Mod_write_8 : decode prog_10_method_39_code 8 = .ok (.if_icmp .ge 28, 3) := by decide +kernel
theorem dc_Mod_write_11 : decode prog_10_method_39_code 11 = .ok (.aload_n 0, 1) := by decide +kernel
theorem dc_Mod_write_12 : decode prog_10_method_39_code 12 = .ok (.getfield 7, 3) := by decide +kernel
theorem dc_Mod_write_15 : decode prog_10_method_39_code 15 = .ok (.bipush 120, 2) := by decide +kernel
theorem dc_Mod_write_17 : decode prog_10_method_39_code 17 = .ok (.aload_n 0, 1) := by decide +kernel
theorem dc_Mod_write_18 : decode prog_10_method_39_code 18 = .ok (.getfield 13, 3) := by decide +kernel
theorem dc_Mod_write_21 : decode prog_10_method_39_code 21 = .ok (.iconst 1, 1) := by decide +kernel
theorem dc_Mod_write_22 : decode prog_10_method_39_code 22 = .ok (.iaload, 1) := by decide +kernel
theorem dc_Mod_write_23 : decode prog_10_method_39_code 23 = .ok (.iadd, 1) := by decide +kernel
theorem dc_Mod_write_24 : decode prog_10_method_39_code 24 = .ok (.iload_n 1, 1) := by decide +kernel
theorem dc_Mod_write_25 : decode prog_10_method_39_code 25 = .ok (.iastore, 1) := by decide +kernel
theorem dc_Mod_write_26 : decode prog_10_method_39_code 26 = .ok (.aload_n 0, 1) := by decide +kernel
theorem dc_Mod_write_27 : decode prog_10_method_39_code 27 = .ok (.getfield 13, 3) := by decide +kernel
theorem dc_Mod_write_30 : decode prog_10_method_39_code 30 = .ok (.iconst 1, 1) := by decide +kernel
theorem dc_Mod_write_31 : decode prog_10_method_39_code 31 = .ok (.dup2, 1) := by decide +kernel
theorem dc_Mod_write_32 : decode prog_10_method_39_code 32 = .ok (.iaload, 1) := by decide +kernel
theorem dc_Mod_write_33 : decode prog_10_method_39_code 33 = .ok (.iconst 1, 1) := by decide +kernel
theorem dc_Mod_write_34 : decode prog_10_method_39_code 34 = .ok (.iadd, 1) := by decide +kernel
theorem dc_Mod_write_35 : decode prog_10_method_39_code 35 = .ok (.iastore, 1) := by decide +kernel
theorem dc_Mod_write_36 : decode prog_10_method_39_code 36 = .ok (.return_, 1) := by decide +kernel
theorem dc_Mod_setField_0 : decode prog_10_method_40_code 0 = .ok (.aload_n 0, 1) := by decide +kernel
theorem dc_Mod_setField_1 : decode prog_10_method_40_code 1 = .ok (.getfield 178, 3) := by decide +kernel
theorem dc_Mod_setField_4 : decode prog_10_method_40_code 4 = .ok (.istore_n 2, 1) := by decide +kernel
theorem dc_Mod_setField_5 : decode prog_10_method_40_code 5 = .ok (.iload_n 2, 1) := by decide +kernel
theorem dc_Mod_setField_6 : decode prog_10_method_40_code 6 = .ok (.iload_n 1, 1) := by decide +kernel
theorem dc_Mod_setField_7 : decode prog_10_method_40_code 7 = .ok (.if_icmp .ge 16, 3) := by decide +kernel
theorem dc_Mod_setField_10 : decode prog_10_method_40_code 10 = .ok (.aload_n 0, 1) := by decide +kernel
theorem dc_Mod_setField_11 : decode prog_10_method_40_code 11 = .ok (.getfield 50, 3) := by decide +kernel
theorem dc_Mod_setField_14 : decode prog_10_method_40_code 14 = .ok (.iload_n 2, 1) := by decide +kernel
theorem dc_Mod_setField_15 : decode prog_10_method_40_code 15 = .ok (.iconst 0, 1) := by decide +kernel
theorem dc_Mod_setField_16 : decode prog_10_method_40_code 16 = .ok (.iastore, 1) := by decide +kernel
theorem dc_Mod_setField_17 : decode prog_10_method_40_code 17 = .ok (.iinc 2 1, 3) := by decide +kernel
theorem dc_Mod_setField_20 : decode prog_10_method_40_code 20 = .ok (.goto (-15), 3) := by decide +kernel
theorem dc_Mod_setField_23 : decode prog_10_method_40_code 23 = .ok (.aload_n 0, 1) := by decide +kernel
theorem dc_Mod_setField_24 : decode prog_10_method_40_code 24 = .ok (.iload_n 1, 1) := by decide +kernel
theorem dc_Mod_setField_25 : decode prog_10_method_40_code 25 = .ok (.aload_n 0, 1) := by decide +kernel
theorem dc_Mod_setField_26 : decode prog_10_method_40_code 26 = .ok (.getfield 178, 3) := by decide +kernel
theorem dc_Mod_setField_29 : decode prog_10_method_40_code 29 = .ok (.if_icmp .le 7, 3) := by decide +kernel
theorem dc_Mod_setField_32 : decode prog_10_method_40_code 32 = .ok (.iload_n 1, 1) := by decide +kernel
theorem dc_Mod_setField_33 : decode prog_10_method_40_code 33 = .ok (.goto 7, 3) := by decide +kernel
theorem dc_Mod_setField_36 : decode prog_10_method_40_code 36 = .ok (.aload_n 0, 1) := by decide +kernel
theorem dc_Mod_setField_37 : decode prog_10_method_40_code 37 = .ok (.getfield 178, 3) := by decide +kernel
theorem dc_Mod_setField_40 : decode prog_10_method_40_code 40 = .ok (.putfield 178, 3) := by decide +kernel
theorem dc_Mod_setField_43 : decode prog_10_method_40_code 43 = .ok (.aload_n 0, 1) := by decide +kernel
theorem dc_Mod_setField_44 : decode prog_10_method_40_code 44 = .ok (.getfield 50, 3) := by decide +kernel
theorem dc_Mod_setField_47 : decode prog_10_method_40_code 47 = .ok (.iload_n 1, 1) := by decide +kernel
theorem dc_Mod_setField_48 : decode prog_10_method_40_code 48 = .ok (.iconst 1, 1) := by decide +kernel
theorem dc_Mod_setField_49 : decode prog_10_method_40_code 49 = .ok (.isub, 1) := by decide +kernel
theorem dc_Mod_setField_50 : decode prog_10_method_40_code 50 = .ok (.aload_n 0, 1) := by decide +kernel
theorem dc_Mod_setField_51 : decode prog_10_method_40_code 51 = .ok (.getfield 13, 3) := by decide +kernel
theorem dc_Mod_setField_54 : decode prog_10_method_40_code 54 = .ok (.bipush 8, 2) := by decide +kernel
theorem dc_Mod_setField_56 : decode prog_10_method_40_code 56 = .ok (.iaload, 1) := by decide +kernel
theorem dc_Mod_setField_57 : decode prog_10_method_40_code 57 = .ok (.iastore, 1) := by decide +kernel
theorem dc_Mod_setField_58 : decode prog_10_method_40_code 58 = .ok (.iconst 0, 1) := by decide +kernel
theorem dc_Mod_setField_59 : decode prog_10_method_40_code 59 = .ok (.istore_n 2, 1) := by decide +kernel
theorem dc_Mod_setField_60 : decode prog_10_method_40_code 60 = .ok (.iload_n 2, 1) := by decide +kernel
theorem dc_Mod_setField_61 : decode prog_10_method_40_code 61 = .ok (.aload_n 0, 1) := by decide +kernel
theorem dc_Mod_setField_62 : decode prog_10_method_40_code 62 = .ok (.getfield 13, 3) := by decide +kernel
theorem dc_Mod_setField_65 : decode prog_10_method_40_code 65 = .ok (.bipush 8, 2) := by decide +kernel
theorem dc_Mod_setField_67 : decode prog_10_method_40_code 67 = .ok (.iaload, 1) := by decide +kernel
theorem dc_Mod_setField_68 : decode prog_10_method_40_code 68 = .ok (.if_icmp .ge 33, 3) := by decide +kernel
theorem dc_Mod_setField_71 : decode prog_10_method_40_code 71 = .ok (.aload_n 0, 1) := by decide +kernel
theorem dc_Mod_setField_72 : decode prog_10_method_40_code 72 = .ok (.getfield 47, 3) := by decide +kernel
theorem dc_Mod_setField_75 : decode prog_10_method_40_code 75 = .ok (.bipush 120, 2) := by decide +kernel
theorem dc_Mod_setField_77 : decode prog_10_method_40_code 77 = .ok (.iload_n 1, 1) := by decide +kernel
theorem dc_Mod_setField_78 : decode prog_10_method_40_code 78 = .ok (.imul, 1) := by decide +kernel
theorem dc_Mod_setField_79 : decode prog_10_method_40_code 79 = .ok (.bipush 120, 2) := by decide +kernel
theorem dc_Mod_setField_81 : decode prog_10_method_40_code 81 = .ok (.isub, 1) := by decide +kernel
theorem dc_Mod_setField_82 : decode prog_10_method_40_code 82 = .ok (.iload_n 2, 1) := by decide +kernel
theorem dc_Mod_setField_83 : decode prog_10_method_40_code 83 = .ok (.iadd, 1) := by decide +kernel
theorem dc_Mod_setField_84 : decode prog_10_method_40_code 84 = .ok (.aload_n 0, 1) := by decide +kernel
theorem dc_Mod_setField_85 : decode prog_10_method_40_code 85 = .ok (.getfield 7, 3) := by decide +kernel
theorem dc_Mod_setField_88 : decode prog_10_method_40_code 88 = .ok (.sipush 960, 3) := by decide +kernel
theorem dc_Mod_setField_91 : decode prog_10_method_40_code 91 = .ok (.iload_n 2, 1) := by decide +kernel
theorem dc_Mod_setField_92 : decode prog_10_method_40_code 92 = .ok (.iadd, 1) := by decide +kernel
theorem dc_Mod_setField_93 : decode prog_10_method_40_code 93 = .ok (.iaload, 1) := by decide +kernel
theorem dc_Mod_setField_94 : decode prog_10_method_40_code 94 = .ok (.iastore, 1) := by decide +kernel
theorem dc_Mod_setField_95 : decode prog_10_method_40_code 95 = .ok (.iinc 2 1, 3) := by decide +kernel
theorem dc_Mod_setField_98 : decode prog_10_method_40_code 98 = .ok (.goto (-38), 3) := by decide +kernel
theorem dc_Mod_setField_101 : decode prog_10_method_40_code 101 = .ok (.aload_n 0, 1) := by decide +kernel
theorem dc_Mod_setField_102 : decode prog_10_method_40_code 102 = .ok (.getfield 13, 3) := by decide +kernel
theorem dc_Mod_setField_105 : decode prog_10_method_40_code 105 = .ok (.iconst 1, 1) := by decide +kernel
theorem dc_Mod_setField_106 : decode prog_10_method_40_code 106 = .ok (.iconst 0, 1) := by decide +kernel
theorem dc_Mod_setField_107 : decode prog_10_method_40_code 107 = .ok (.iastore, 1) := by decide +kernel
theorem dc_Mod_setField_108 : decode prog_10_method_40_code 108 = .ok (.iconst 1, 1) := by decide +kernel
theorem dc_Mod_setField_109 : decode prog_10_method_40_code 109 = .ok (.istore_n 2, 1) := by decide +kernel
theorem dc_Mod_setField_110 : decode prog_10_method_40_code 110 = .ok (.iload_n 2, 1) := by decide +kernel
theorem dc_Mod_setField_111 : decode prog_10_method_40_code 111 = .ok (.aload_n 0, 1) := by decide +kernel
theorem dc_Mod_setField_112 : decode prog_10_method_40_code 112 = .ok (.getfield 178, 3) := by decide +kernel
theorem dc_Mod_setField_115 : decode prog_10_method_40_code 115 = .ok (.if_icmp .gt 49, 3) := by decide +kernel
theorem dc_Mod_setField_118 : decode prog_10_method_40_code 118 = .ok (.iload_n 2, 1) := by decide +kernel
theorem dc_Mod_setField_119 : decode prog_10_method_40_code 119 = .ok (.iconst 1, 1) := by decide +kernel
theorem dc_Mod_setField_120 : decode prog_10_method_40_code 120 = .ok (.if_icmp .le 11, 3) := by decide +kernel
theorem dc_Mod_setField_123 : decode prog_10_method_40_code 123 = .ok (.aload_n 0, 1) := by decide +kernel
theorem dc_Mod_setField_124 : decode prog_10_method_40_code 124 = .ok (.aload_n 0, 1) := by decide +kernel
theorem dc_Mod_setField_125 : decode prog_10_method_40_code 125 = .ok (.getfield 22, 3) := by decide +kernel
theorem dc_Mod_setField_128 : decode prog_10_method_40_code 128 = .ok (.invokevirtual 209, 3) := by decide +kernel
theorem dc_Mod_setField_131 : decode prog_10_method_40_code 131 = .ok (.iconst 0, 1) := by decide +kernel
theorem dc_Mod_setField_132 : decode prog_10_method_40_code 132 = .ok (.istore_n 3, 1) := by decide +kernel
theorem dc_Mod_setField_133 : decode prog_10_method_40_code 133 = .ok (.iload_n 3, 1) := by decide +kernel
theorem dc_Mod_setField_134 : decode prog_10_method_40_code 134 = .ok (.aload_n 0, 1) := by decide +kernel
theorem dc_Mod_setField_135 : decode prog_10_method_40_code 135 = .ok (.iload_n 2, 1) := by decide +kernel
theorem dc_Mod_setField_136 : decode prog_10_method_40_code 136 = .ok (.invokevirtual 184, 3) := by decide +kernel
theorem dc_Mod_setField_139 : decode prog_10_method_40_code 139 = .ok (.if_icmp .ge 19, 3) := by decide +kernel
theorem dc_Mod_setField_142 : decode prog_10_method_40_code 142 = .ok (.aload_n 0, 1) := by decide +kernel
theorem dc_Mod_setField_143 : decode prog_10_method_40_code 143 = .ok (.aload_n 0, 1) := by decide +kernel
theorem dc_Mod_setField_144 : decode prog_10_method_40_code 144 = .ok (.iload_n 2, 1) := by decide +kernel
theorem dc_Mod_setField_145 : decode prog_10_method_40_code 145 = .ok (.iload_n 3, 1) := by decide +kernel
theorem dc_Mod_setField_146 : decode prog_10_method_40_code 146 = .ok (.invokevirtual 187, 3) := by decide +kernel
theorem dc_Mod_setField_149 : decode prog_10_method_40_code 149 = .ok (.invokevirtual 209, 3) := by decide +kernel
theorem dc_Mod_setField_152 : decode prog_10_method_40_code 152 = .ok (.iinc 3 1, 3) := by decide +kernel
theorem dc_Mod_setField_155 : decode prog_10_method_40_code 155 = .ok (.goto (-22), 3) := by decide +kernel
theorem dc_Mod_setField_158 : decode prog_10_method_40_code 158 = .ok (.iinc 2 1, 3) := by decide +kernel
theorem dc_Mod_setField_161 : decode prog_10_method_40_code 161 = .ok (.goto (-51), 3) := by decide +kernel
theorem dc_Mod_setField_164 : decode prog_10_method_40_code 164 = .ok (.return_, 1) := by decide +kernel
theorem dc_Mod_fieldToRow_0 : decode prog_10_method_41_code 0 = .ok (.aload_n 0, 1) := by decide +kernel
theorem dc_Mod_fieldToRow_1 : decode prog_10_method_41_code 1 = .ok (.getfield 13, 3) := by decide +kernel
theorem dc_Mod_fieldToRow_4 : decode prog_10_method_41_code 4 = .ok (.bipush 8, 2) := by decide +kernel
theorem dc_Mod_fieldToRow_6 : decode prog_10_method_41_code 6 = .ok (.aload_n 0, 1) := by decide +kernel
theorem dc_Mod_fieldToRow_7 : decode prog_10_method_41_code 7 = .ok (.iload_n 1, 1) := by decide +kernel
theorem dc_Mod_fieldToRow_8 : decode prog_10_method_41_code 8 = .ok (.invokevirtual 184, 3) := by decide +kernel
theorem dc_Mod_fieldToRow_11 : decode prog_10_method_41_code 11 = .ok (.iastore, 1) := by decide +kernel
theorem dc_Mod_fieldToRow_12 : decode prog_10_method_41_code 12 = .ok (.iconst 0, 1) := by decide +kernel
theorem dc_Mod_fieldToRow_13 : decode prog_10_method_41_code 13 = .ok (.istore_n 2, 1) := by decide +kernel
theorem dc_Mod_fieldToRow_14 : decode prog_10_method_41_code 14 = .ok (.iload_n 2, 1) := by decide +kernel
theorem dc_Mod_fieldToRow_15 : decode prog_10_method_41_code 15 = .ok (.aload_n 0, 1) := by decide +kernel
theorem dc_Mod_fieldToRow_16 : decode prog_10_method_41_code 16 = .ok (.iload_n 1, 1) := by decide +kernel
theorem dc_Mod_fieldToRow_17 : decode prog_10_method_41_code 17 = .ok (.invokevirtual 184, 3) := by decide +kernel
theorem dc_Mod_fieldToRow_20 : decode prog_10_method_41_code 20 = .ok (.if_icmp .ge 25, 3) := by decide +kernel
theorem dc_Mod_fieldToRow_23 : decode prog_10_method_41_code 23 = .ok (.aload_n 0, 1) := by decide +kernel
theorem dc_Mod_fieldToRow_24 : decode prog_10_method_41_code 24 = .ok (.getfield 7, 3) := by decide +kernel
theorem dc_Mod_fieldToRow_27 : decode prog_10_method_41_code 27 = .ok (.sipush 960, 3) := by decide +kernel
theorem dc_Mod_fieldToRow_30 : decode prog_10_method_41_code 30 = .ok (.iload_n 2, 1) := by decide +kernel
theorem dc_Mod_fieldToRow_31 : decode prog_10_method_41_code 31 = .ok (.iadd, 1) := by decide +kernel
theorem dc_Mod_fieldToRow_32 : decode prog_10_method_41_code 32 = .ok (.aload_n 0, 1) := by decide +kernel
theorem dc_Mod_fieldToRow_33 : decode prog_10_method_41_code 33 = .ok (.iload_n 1, 1) := by decide +kernel
theorem dc_Mod_fieldToRow_34 : decode prog_10_method_41_code 34 = .ok (.iload_n 2, 1) := by decide +kernel
theorem dc_Mod_fieldToRow_35 : decode prog_10_method_41_code 35 = .ok (.invokevirtual 187, 3) := by decide +kernel
theorem dc_Mod_fieldToRow_38 : decode prog_10_method_41_code 38 = .ok (.iastore, 1) := by decide +kernel
theorem dc_Mod_fieldToRow_39 : decode prog_10_method_41_code 39 = .ok (.iinc 2 1, 3) := by decide +kernel
theorem dc_Mod_fieldToRow_42 : decode prog_10_method_41_code 42 = .ok (.goto (-28), 3) := by decide +kernel
theorem dc_Mod_fieldToRow_45 : decode prog_10_method_41_code 45 = .ok (.return_, 1) := by decide +kernel
theorem dc_Mod_replace_0 : decode prog_10_method_42_code 0 = .ok (.aload_n 0, 1) := by decide +kernel
theorem dc_Mod_replace_1 : decode prog_10_method_42_code 1 = .ok (.iconst 1, 1) := by decide +kernel
theorem dc_Mod_replace_2 : decode prog_10_method_42_code 2 = .ok (.bipush 8, 2) := by decide +kernel
theorem dc_Mod_replace_4 : decode prog_10_method_42_code 4 = .ok (.invokevirtual 166, 3) := by decide +kernel
theorem dc_Mod_replace_7 : decode prog_10_method_42_code 7 = .ok (.aload_n 0, 1) := by decide +kernel
theorem dc_Mod_replace_8 : decode prog_10_method_42_code 8 = .ok (.getfield 13, 3) := by decide +kernel
theorem dc_Mod_replace_11 : decode prog_10_method_42_code 11 = .ok (.iconst 1, 1) := by decide +kernel
theorem dc_Mod_replace_12 : decode prog_10_method_42_code 12 = .ok (.iconst 0, 1) := by decide +kernel
theorem dc_Mod_replace_13 : decode prog_10_method_42_code 13 = .ok (.iastore, 1) := by decide +kernel
theorem dc_Mod_replace_14 : decode prog_10_method_42_code 14 = .ok (.iconst 0, 1) := by decide +kernel
theorem dc_Mod_replace_15 : decode prog_10_method_42_code 15 = .ok (.istore 4, 2) := by decide +kernel
theorem dc_Mod_replace_17 : decode prog_10_method_42_code 17 = .ok (.iconst (-1), 1) := by decide +kernel
theorem dc_Mod_replace_18 : decode prog_10_method_42_code 18 = .ok (.istore 5, 2) := by decide +kernel
theorem dc_Mod_replace_20 : decode prog_10_method_42_code 20 = .ok (.iconst 0, 1) := by decide +kernel
theorem dc_Mod_replace_21 : decode prog_10_method_42_code 21 = .ok (.istore 6, 2) := by decide +kernel
theorem dc_Mod_replace_23 : decode prog_10_method_42_code 23 = .ok (.iconst 1, 1) := by decide +kernel
theorem dc_Mod_replace_24 : decode prog_10_method_42_code 24 = .ok (.istore 7, 2) := by decide +kernel
theorem dc_Mod_replace_26 : decode prog_10_method_42_code 26 = .ok (.iload 7, 2) := by decide +kernel
theorem dc_Mod_replace_28 : decode prog_10_method_42_code 28 = .ok (.ifCond .eq 165, 3) := by decide +kernel
theorem dc_Mod_replace_31 : decode prog_10_method_42_code 31 = .ok (.iload 6, 2) := by decide +kernel
theorem dc_Mod_replace_33 : decode prog_10_method_42_code 33 = .ok (.aload_n 0, 1) := by decide +kernel
theorem dc_Mod_replace_34 : decode prog_10_method_42_code 34 = .ok (.getfield 13, 3) := by decide +kernel
theorem dc_Mod_replace_37 : decode prog_10_method_42_code 37 = .ok (.bipush 8, 2) := by decide +kernel
theorem dc_Mod_replace_39 : decode prog_10_method_42_code 39 = .ok (.iaload, 1) := by decide +kernel
theorem dc_Mod_replace_40 : decode prog_10_method_42_code 40 = .ok (.if_icmp .gt 153, 3) := by decide +kernel
theorem dc_Mod_replace_43 : decode prog_10_method_42_code 43 = .ok (.aload_n 0, 1) := by decide +kernel
theorem dc_Mod_replace_44 : decode prog_10_method_42_code 44 = .ok (.iload_n 1, 1) := by decide +kernel
theorem dc_Mod_replace_45 : decode prog_10_method_42_code 45 = .ok (.bipush 8, 2) := by decide +kernel
theorem dc_Mod_replace_47 : decode prog_10_method_42_code 47 = .ok (.iload 6, 2) := by decide +kernel
theorem dc_Mod_replace_49 : decode prog_10_method_42_code 49 = .ok (.invokevirtual 212, 3) := by decide +kernel
theorem dc_Mod_replace_52 : decode prog_10_method_42_code 52 = .ok (.istore 7, 2) := by decide +kernel
theorem dc_Mod_replace_54 : decode prog_10_method_42_code 54 = .ok (.iload 7, 2) := by decide +kernel
theorem dc_Mod_replace_56 : decode prog_10_method_42_code 56 = .ok (.ifCond .eq 32, 3) := by decide +kernel
theorem dc_Mod_replace_59 : decode prog_10_method_42_code 59 = .ok (.aload_n 0, 1) := by decide +kernel
theorem dc_Mod_replace_60 : decode prog_10_method_42_code 60 = .ok (.getfield 160, 3) := by decide +kernel
theorem dc_Mod_replace_63 : decode prog_10_method_42_code 63 = .ok (.aload_n 0, 1) := by decide +kernel
theorem dc_Mod_replace_64 : decode prog_10_method_42_code 64 = .ok (.getfield 163, 3) := by decide +kernel
theorem dc_Mod_replace_67 : decode prog_10_method_42_code 67 = .ok (.if_icmp .ne 21, 3) := by decide +kernel
theorem dc_Mod_replace_70 : decode prog_10_method_42_code 70 = .ok (.aload_n 0, 1) := by decide +kernel
theorem dc_Mod_replace_71 : decode prog_10_method_42_code 71 = .ok (.getfield 160, 3) := by decide +kernel
theorem dc_Mod_replace_74 : decode prog_10_method_42_code 74 = .ok (.iload 5, 2) := by decide +kernel
theorem dc_Mod_replace_76 : decode prog_10_method_42_code 76 = .ok (.if_icmp .ne 12, 3) := by decide +kernel
theorem dc_Mod_replace_79 : decode prog_10_method_42_code 79 = .ok (.iload 5, 2) := by decide +kernel
theorem dc_Mod_replace_81 : decode prog_10_method_42_code 81 = .ok (.iconst 1, 1) := by decide +kernel
theorem dc_Mod_replace_82 : decode prog_10_method_42_code 82 = .ok (.iadd, 1) := by decide +kernel
theorem dc_Mod_replace_83 : decode prog_10_method_42_code 83 = .ok (.istore 6, 2) := by decide +kernel
theorem dc_Mod_replace_85 : decode prog_10_method_42_code 85 = .ok (.goto (-59), 3) := by decide +kernel
theorem dc_Mod_replace_88 : decode prog_10_method_42_code 88 = .ok (.iload 7, 2) := by decide +kernel
theorem dc_Mod_replace_90 : decode prog_10_method_42_code 90 = .ok (.ifCond .eq (-64), 3) := by decide +kernel
theorem dc_Mod_replace_93 : decode prog_10_method_42_code 93 = .ok (.iload 4, 2) := by decide +kernel
theorem dc_Mod_replace_95 : decode prog_10_method_42_code 95 = .ok (.istore 8, 2) := by decide +kernel
theorem dc_Mod_replace_97 : decode prog_10_method_42_code 97 = .ok (.iload 8, 2) := by decide +kernel
theorem dc_Mod_replace_99 : decode prog_10_method_42_code 99 = .ok (.aload_n 0, 1) := by decide +kernel
theorem dc_Mod_replace_100 : decode prog_10_method_42_code 100 = .ok (.getfield 160, 3) := by decide +kernel
theorem dc_Mod_replace_103 : decode prog_10_method_42_code 103 = .ok (.if_icmp .ge 24, 3) := by decide +kernel
theorem dc_Mod_replace_106 : decode prog_10_method_42_code 106 = .ok (.aload_n 0, 1) := by decide +kernel
theorem dc_Mod_replace_107 : decode prog_10_method_42_code 107 = .ok (.aload_n 0, 1) := by decide +kernel
theorem dc_Mod_replace_108 : decode prog_10_method_42_code 108 = .ok (.getfield 7, 3) := by decide +kernel
theorem dc_Mod_replace_111 : decode prog_10_method_42_code 111 = .ok (.sipush 960, 3) := by decide +kernel
theorem dc_Mod_replace_114 : decode prog_10_method_42_code 114 = .ok (.iload 8, 2) := by decide +kernel
theorem dc_Mod_replace_116 : decode prog_10_method_42_code 116 = .ok (.iadd, 1) := by decide +kernel
theorem dc_Mod_replace_117 : decode prog_10_method_42_code 117 = .ok (.iaload, 1) := by decide +kernel
theorem dc_Mod_replace_118 : decode prog_10_method_42_code 118 = .ok (.invokevirtual 209, 3) := by decide +kernel
theorem dc_Mod_replace_121 : decode prog_10_method_42_code 121 = .ok (.iinc 8 1, 3) := by decide +kernel
theorem dc_Mod_replace_124 : decode prog_10_method_42_code 124 = .ok (.goto (-27), 3) := by decide +kernel
theorem dc_Mod_replace_127 : decode prog_10_method_42_code 127 = .ok (.iconst 0, 1) := by decide +kernel
theorem dc_Mod_replace_128 : decode prog_10_method_42_code 128 = .ok (.istore 8, 2) := by decide +kernel
theorem dc_Mod_replace_130 : decode prog_10_method_42_code 130 = .ok (.iload 8, 2) := by decide +kernel
theorem dc_Mod_replace_132 : decode prog_10_method_42_code 132 = .ok (.aload_n 0, 1) := by decide +kernel
theorem dc_Mod_replace_133 : decode prog_10_method_42_code 133 = .ok (.getfield 13, 3) := by decide +kernel
theorem dc_Mod_replace_136 : decode prog_10_method_42_code 136 = .ok (.iconst 2, 1) := by decide +kernel
theorem dc_Mod_replace_137 : decode prog_10_method_42_code 137 = .ok (.iload_n 2, 1) := by decide +kernel
theorem dc_Mod_replace_138 : decode prog_10_method_42_code 138 = .ok (.iadd, 1) := by decide +kernel
theorem dc_Mod_replace_139 : decode prog_10_method_42_code 139 = .ok (.iaload, 1) := by decide +kernel
theorem dc_Mod_replace_140 : decode prog_10_method_42_code 140 = .ok (.if_icmp .ge 29, 3) := by decide +kernel
theorem dc_Mod_replace_143 : decode prog_10_method_42_code 143 = .ok (.aload_n 0, 1) := by decide +kernel
theorem dc_Mod_replace_144 : decode prog_10_method_42_code 144 = .ok (.aload_n 0, 1) := by decide +kernel
theorem dc_Mod_replace_145 : decode prog_10_method_42_code 145 = .ok (.getfield 7, 3) := by decide +kernel
theorem dc_Mod_replace_148 : decode prog_10_method_42_code 148 = .ok (.sipush 240, 3) := by decide +kernel
theorem dc_Mod_replace_151 : decode prog_10_method_42_code 151 = .ok (.bipush 120, 2) := by decide +kernel
theorem dc_Mod_replace_153 : decode prog_10_method_42_code 153 = .ok (.iload_n 2, 1) := by decide +kernel
theorem dc_Mod_replace_154 : decode prog_10_method_42_code 154 = .ok (.imul, 1) := by decide +kernel
theorem dc_Mod_replace_155 : decode prog_10_method_42_code 155 = .ok (.iadd, 1) := by decide +kernel
theorem dc_Mod_replace_156 : decode prog_10_method_42_code 156 = .ok (.iload 8, 2) := by decide +kernel
theorem dc_Mod_replace_158 : decode prog_10_method_42_code 158 = .ok (.iadd, 1) := by decide +kernel
theorem dc_Mod_replace_159 : decode prog_10_method_42_code 159 = .ok (.iaload, 1) := by decide +kernel
theorem dc_Mod_replace_160 : decode prog_10_method_42_code 160 = .ok (.invokevirtual 209, 3) := by decide +kernel
theorem dc_Mod_replace_163 : decode prog_10_method_42_code 163 = .ok (.iinc 8 1, 3) := by decide +kernel
theorem dc_Mod_replace_166 : decode prog_10_method_42_code 166 = .ok (.goto (-36), 3) := by decide +kernel
theorem dc_Mod_replace_169 : decode prog_10_method_42_code 169 = .ok (.aload_n 0, 1) := by decide +kernel
theorem dc_Mod_replace_170 : decode prog_10_method_42_code 170 = .ok (.getfield 163, 3) := by decide +kernel
theorem dc_Mod_replace_173 : decode prog_10_method_42_code 173 = .ok (.istore 4, 2) := by decide +kernel
theorem dc_Mod_replace_175 : decode prog_10_method_42_code 175 = .ok (.aload_n 0, 1) := by decide +kernel
theorem dc_Mod_replace_176 : decode prog_10_method_42_code 176 = .ok (.getfield 163, 3) := by decide +kernel
theorem dc_Mod_replace_179 : decode prog_10_method_42_code 179 = .ok (.istore 5, 2) := by decide +kernel
theorem dc_Mod_replace_181 : decode prog_10_method_42_code 181 = .ok (.aload_n 0, 1) := by decide +kernel
theorem dc_Mod_replace_182 : decode prog_10_method_42_code 182 = .ok (.getfield 163, 3) := by decide +kernel
theorem dc_Mod_replace_185 : decode prog_10_method_42_code 185 = .ok (.istore 6, 2) := by decide +kernel
theorem dc_Mod_replace_187 : decode prog_10_method_42_code 187 = .ok (.iload_n 3, 1) := by decide +kernel
theorem dc_Mod_replace_188 : decode prog_10_method_42_code 188 = .ok (.istore 7, 2) := by decide +kernel
theorem dc_Mod_replace_190 : decode prog_10_method_42_code 190 = .ok (.goto (-164), 3) := by decide +kernel
theorem dc_Mod_replace_193 : decode prog_10_method_42_code 193 = .ok (.iload 4, 2) := by decide +kernel
theorem dc_Mod_replace_195 : decode prog_10_method_42_code 195 = .ok (.istore 8, 2) := by decide +kernel
theorem dc_Mod_replace_197 : decode prog_10_method_42_code 197 = .ok (.iload 8, 2) := by decide +kernel
theorem dc_Mod_replace_199 : decode prog_10_method_42_code 199 = .ok (.aload_n 0, 1) := by decide +kernel
theorem dc_Mod_replace_200 : decode prog_10_method_42_code 200 = .ok (.getfield 13, 3) := by decide +kernel
theorem dc_Mod_replace_203 : decode prog_10_method_42_code 203 = .ok (.bipush 8, 2) := by decide +kernel
theorem dc_Mod_replace_205 : decode prog_10_method_42_code 205 = .ok (.iaload, 1) := by decide +kernel
theorem dc_Mod_replace_206 : decode prog_10_method_42_code 206 = .ok (.if_icmp .ge 24, 3) := by decide +kernel
theorem dc_Mod_replace_209 : decode prog_10_method_42_code 209 = .ok (.aload_n 0, 1) := by decide +kernel
theorem dc_Mod_replace_210 : decode prog_10_method_42_code 210 = .ok (.aload_n 0, 1) := by decide +kernel
theorem dc_Mod_replace_211 : decode prog_10_method_42_code 211 = .ok (.getfield 7, 3) := by decide +kernel
theorem dc_Mod_replace_214 : decode prog_10_method_42_code 214 = .ok (.sipush 960, 3) := by decide +kernel
theorem dc_Mod_replace_217 : decode prog_10_method_42_code 217 = .ok (.iload 8, 2) := by decide +kernel
theorem dc_Mod_replace_219 : decode prog_10_method_42_code 219 = .ok (.iadd, 1) := by decide +kernel
theorem dc_Mod_replace_220 : decode prog_10_method_42_code 220 = .ok (.iaload, 1) := by decide +kernel
theorem dc_Mod_replace_221 : decode prog_10_method_42_code 221 = .ok (.invokevirtual 209, 3) := by decide +kernel
theorem dc_Mod_replace_224 : decode prog_10_method_42_code 224 = .ok (.iinc 8 1, 3) := by decide +kernel
theorem dc_Mod_replace_227 : decode prog_10_method_42_code 227 = .ok (.goto (-30), 3) := by decide +kernel
theorem dc_Mod_replace_230 : decode prog_10_method_42_code 230 = .ok (.aload_n 0, 1) := by decide +kernel
theorem dc_Mod_replace_231 : decode prog_10_method_42_code 231 = .ok (.invokevirtual 215, 3) := by decide +kernel
theorem dc_Mod_replace_234 : decode prog_10_method_42_code 234 = .ok (.return_, 1) := by decide +kernel
theorem dc_Mod_act_0 : decode prog_10_method_43_code 0 = .ok (.iload_n 1, 1) := by decide +kernel
theorem dc_Mod_act_1 : decode prog_10_method_43_code 1 = .ok (.tableswitch 261 0 12 #[67, 82, 104, 125, 134, 147, 165, 165, 185, 211, 261, 238, 248], 67) := by decide +kernel
theorem dc_Mod_act_68 : decode prog_10_method_43_code 68 = .ok (.aload_n 0, 1) := by decide +kernel
theorem dc_Mod_act_69 : decode prog_10_method_43_code 69 = .ok (.iconst 1, 1) := by decide +kernel
theorem dc_Mod_act_70 : decode prog_10_method_43_code 70 = .ok (.iconst 0, 1) := by decide +kernel
theorem dc_Mod_act_71 : decode prog_10_method_43_code 71 = .ok (.aload_n 0, 1) := by decide +kernel
theorem dc_Mod_act_72 : decode prog_10_method_43_code 72 = .ok (.getfield 13, 3) := by decide +kernel
theorem dc_Mod_act_75 : decode prog_10_method_43_code 75 = .ok (.iconst 1, 1) := by decide +kernel
theorem dc_Mod_act_76 : decode prog_10_method_43_code 76 = .ok (.iaload, 1) := by decide +kernel
theorem dc_Mod_act_77 : decode prog_10_method_43_code 77 = .ok (.invokevirtual 218, 3) := by decide +kernel
theorem dc_Mod_act_80 : decode prog_10_method_43_code 80 = .ok (.goto 182, 3) := by decide +kernel
theorem dc_Mod_act_83 : decode prog_10_method_43_code 83 = .ok (.aload_n 0, 1) := by decide +kernel
theorem dc_Mod_act_84 : decode prog_10_method_43_code 84 = .ok (.iload_n 2, 1) := by decide +kernel
theorem dc_Mod_act_85 : decode prog_10_method_43_code 85 = .ok (.invokevirtual 222, 3) := by decide +kernel
theorem dc_Mod_act_88 : decode prog_10_method_43_code 88 = .ok (.aload_n 0, 1) := by decide +kernel
theorem dc_Mod_act_89 : decode prog_10_method_43_code 89 = .ok (.bipush 8, 2) := by decide +kernel
theorem dc_Mod_act_91 : decode prog_10_method_43_code 91 = .ok (.iconst 0, 1) := by decide +kernel
theorem dc_Mod_act_92 : decode prog_10_method_43_code 92 = .ok (.aload_n 0, 1) := by decide +kernel
theorem dc_Mod_act_93 : decode prog_10_method_43_code 93 = .ok (.getfield 13, 3) := by decide +kernel
theorem dc_Mod_act_96 : decode prog_10_method_43_code 96 = .ok (.bipush 8, 2) := by decide +kernel
theorem dc_Mod_act_98 : decode prog_10_method_43_code 98 = .ok (.iaload, 1) := by decide +kernel
theorem dc_Mod_act_99 : decode prog_10_method_43_code 99 = .ok (.invokevirtual 218, 3) := by decide +kernel
theorem dc_Mod_act_102 : decode prog_10_method_43_code 102 = .ok (.goto 160, 3) := by decide +kernel
theorem dc_Mod_act_105 : decode prog_10_method_43_code 105 = .ok (.aload_n 0, 1) := by decide +kernel
theorem dc_Mod_act_106 : decode prog_10_method_43_code 106 = .ok (.getfield 53, 3) := by decide +kernel
theorem dc_Mod_act_109 : decode prog_10_method_43_code 109 = .ok (.iload_n 3, 1) := by decide +kernel
theorem dc_Mod_act_110 : decode prog_10_method_43_code 110 = .ok (.aload_n 0, 1) := by decide +kernel
theorem dc_Mod_act_111 : decode prog_10_method_43_code 111 = .ok (.getfield 53, 3) := by decide +kernel
theorem dc_Mod_act_114 : decode prog_10_method_43_code 114 = .ok (.iload_n 3, 1) := by decide +kernel
theorem dc_Mod_act_115 : decode prog_10_method_43_code 115 = .ok (.iaload, 1) := by decide +kernel
theorem dc_Mod_act_116 : decode prog_10_method_43_code 116 = .ok (.aload_n 0, 1) := by decide +kernel
theorem dc_Mod_act_117 : decode prog_10_method_43_code 117 = .ok (.iload_n 2, 1) := by decide +kernel
theorem dc_Mod_act_118 : decode prog_10_method_43_code 118 = .ok (.invokevirtual 225, 3) := by decide +kernel
theorem dc_Mod_act_121 : decode prog_10_method_43_code 121 = .ok (.iadd, 1) := by decide +kernel
theorem dc_Mod_act_122 : decode prog_10_method_43_code 122 = .ok (.iastore, 1) := by decide +kernel
theorem dc_Mod_act_123 : decode prog_10_method_43_code 123 = .ok (.goto 139, 3) := by decide +kernel
theorem dc_Mod_act_126 : decode prog_10_method_43_code 126 = .ok (.aload_n 0, 1) := by decide +kernel
theorem dc_Mod_act_127 : decode prog_10_method_43_code 127 = .ok (.iload_n 2, 1) := by decide +kernel
theorem dc_Mod_act_128 : decode prog_10_method_43_code 128 = .ok (.iload_n 3, 1) := by decide +kernel
theorem dc_Mod_act_129 : decode prog_10_method_43_code 129 = .ok (.invokevirtual 228, 3) := by decide +kernel
theorem dc_Mod_act_132 : decode prog_10_method_43_code 132 = .ok (.goto 130, 3) := by decide +kernel
theorem dc_Mod_act_135 : decode prog_10_method_43_code 135 = .ok (.aload_n 0, 1) := by decide +kernel
theorem dc_Mod_act_136 : decode prog_10_method_43_code 136 = .ok (.iload_n 3, 1) := by decide +kernel
theorem dc_Mod_act_137 : decode prog_10_method_43_code 137 = .ok (.invokevirtual 222, 3) := by decide +kernel
theorem dc_Mod_act_140 : decode prog_10_method_43_code 140 = .ok (.aload_n 0, 1) := by decide +kernel
theorem dc_Mod_act_141 : decode prog_10_method_43_code 141 = .ok (.iload_n 2, 1) := by decide +kernel
theorem dc_Mod_act_142 : decode prog_10_method_43_code 142 = .ok (.invokevirtual 231, 3) := by decide +kernel
theorem dc_Mod_act_145 : decode prog_10_method_43_code 145 = .ok (.goto 117, 3) := by decide +kernel
theorem dc_Mod_act_148 : decode prog_10_method_43_code 148 = .ok (.aload_n 0, 1) := by decide +kernel
theorem dc_Mod_act_149 : decode prog_10_method_43_code 149 = .ok (.aload_n 0, 1) := by decide +kernel
theorem dc_Mod_act_150 : decode prog_10_method_43_code 150 = .ok (.getfield 53, 3) := by decide +kernel
theorem dc_Mod_act_153 : decode prog_10_method_43_code 153 = .ok (.iload_n 3, 1) := by decide +kernel
theorem dc_Mod_act_154 : decode prog_10_method_43_code 154 = .ok (.iaload, 1) := by decide +kernel
theorem dc_Mod_act_155 : decode prog_10_method_43_code 155 = .ok (.invokevirtual 234, 3) := by decide +kernel
theorem dc_Mod_act_158 : decode prog_10_method_43_code 158 = .ok (.aload_n 0, 1) := by decide +kernel
theorem dc_Mod_act_159 : decode prog_10_method_43_code 159 = .ok (.iload_n 2, 1) := by decide +kernel
theorem dc_Mod_act_160 : decode prog_10_method_43_code 160 = .ok (.invokevirtual 231, 3) := by decide +kernel
theorem dc_Mod_act_163 : decode prog_10_method_43_code 163 = .ok (.goto 99, 3) := by decide +kernel
theorem dc_Mod_act_166 : decode prog_10_method_43_code 166 = .ok (.aload_n 0, 1) := by decide +kernel
theorem dc_Mod_act_167 : decode prog_10_method_43_code 167 = .ok (.iload_n 2, 1) := by decide +kernel
theorem dc_Mod_act_168 : decode prog_10_method_43_code 168 = .ok (.iload_n 3, 1) := by decide +kernel
theorem dc_Mod_act_169 : decode prog_10_method_43_code 169 = .ok (.iload_n 1, 1) := by decide +kernel
theorem dc_Mod_act_170 : decode prog_10_method_43_code 170 = .ok (.bipush 7, 2) := by decide +kernel
theorem dc_Mod_act_172 : decode prog_10_method_43_code 172 = .ok (.if_icmp .ne 7, 3) := by decide +kernel
theorem dc_Mod_act_175 : decode prog_10_method_43_code 175 = .ok (.iconst 1, 1) := by decide +kernel
theorem dc_Mod_act_176 : decode prog_10_method_43_code 176 = .ok (.goto 4, 3) := by decide +kernel
theorem dc_Mod_act_179 : decode prog_10_method_43_code 179 = .ok (.iconst 0, 1) := by decide +kernel
theorem dc_Mod_act_180 : decode prog_10_method_43_code 180 = .ok (.invokevirtual 237, 3) := by decide +kernel
theorem dc_Mod_act_183 : decode prog_10_method_43_code 183 = .ok (.goto 79, 3) := by decide +kernel
theorem dc_Mod_act_186 : decode prog_10_method_43_code 186 = .ok (.aload_n 0, 1) := by decide +kernel
theorem dc_Mod_act_187 : decode prog_10_method_43_code 187 = .ok (.iload_n 2, 1) := by decide +kernel
theorem dc_Mod_act_188 : decode prog_10_method_43_code 188 = .ok (.iconst 1, 1) := by decide +kernel
theorem dc_Mod_act_189 : decode prog_10_method_43_code 189 = .ok (.iconst 0, 1) := by decide +kernel
theorem dc_Mod_act_190 : decode prog_10_method_43_code 190 = .ok (.invokevirtual 212, 3) := by decide +kernel
theorem dc_Mod_act_193 : decode prog_10_method_43_code 193 = .ok (.ifCond .eq 69, 3) := by decide +kernel
theorem dc_Mod_act_196 : decode prog_10_method_43_code 196 = .ok (.aload_n 0, 1) := by decide +kernel
theorem dc_Mod_act_197 : decode prog_10_method_43_code 197 = .ok (.iconst 1, 1) := by decide +kernel
theorem dc_Mod_act_198 : decode prog_10_method_43_code 198 = .ok (.aload_n 0, 1) := by decide +kernel
theorem dc_Mod_act_199 : decode prog_10_method_43_code 199 = .ok (.getfield 160, 3) := by decide +kernel
theorem dc_Mod_act_202 : decode prog_10_method_43_code 202 = .ok (.aload_n 0, 1) := by decide +kernel
theorem dc_Mod_act_203 : decode prog_10_method_43_code 203 = .ok (.getfield 163, 3) := by decide +kernel
theorem dc_Mod_act_206 : decode prog_10_method_43_code 206 = .ok (.invokevirtual 218, 3) := by decide +kernel
theorem dc_Mod_act_209 : decode prog_10_method_43_code 209 = .ok (.goto 53, 3) := by decide +kernel
theorem dc_Mod_act_212 : decode prog_10_method_43_code 212 = .ok (.aload_n 0, 1) := by decide +kernel
theorem dc_Mod_act_213 : decode prog_10_method_43_code 213 = .ok (.aload_n 0, 1) := by decide +kernel
theorem dc_Mod_act_214 : decode prog_10_method_43_code 214 = .ok (.getfield 53, 3) := by decide +kernel
theorem dc_Mod_act_217 : decode prog_10_method_43_code 217 = .ok (.iload_n 2, 1) := by decide +kernel
theorem dc_Mod_act_218 : decode prog_10_method_43_code 218 = .ok (.iaload, 1) := by decide +kernel
theorem dc_Mod_act_219 : decode prog_10_method_43_code 219 = .ok (.invokevirtual 234, 3) := by decide +kernel
theorem dc_Mod_act_222 : decode prog_10_method_43_code 222 = .ok (.aload_n 0, 1) := by decide +kernel
theorem dc_Mod_act_223 : decode prog_10_method_43_code 223 = .ok (.bipush 8, 2) := by decide +kernel
theorem dc_Mod_act_225 : decode prog_10_method_43_code 225 = .ok (.iconst 0, 1) := by decide +kernel
theorem dc_Mod_act_226 : decode prog_10_method_43_code 226 = .ok (.aload_n 0, 1) := by decide +kernel
theorem dc_Mod_act_227 : decode prog_10_method_43_code 227 = .ok (.getfield 13, 3) := by decide +kernel
theorem dc_Mod_act_230 : decode prog_10_method_43_code 230 = .ok (.bipush 8, 2) := by decide +kernel
theorem dc_Mod_act_232 : decode prog_10_method_43_code 232 = .ok (.iaload, 1) := by decide +kernel
theorem dc_Mod_act_233 : decode prog_10_method_43_code 233 = .ok (.invokevirtual 218, 3) := by decide +kernel
theorem dc_Mod_act_236 : decode prog_10_method_43_code 236 = .ok (.goto 26, 3) := by decide +kernel
theorem dc_Mod_act_239 : decode prog_10_method_43_code 239 = .ok (.aload_n 0, 1) := by decide +kernel
theorem dc_Mod_act_240 : decode prog_10_method_43_code 240 = .ok (.getfield 53, 3) := by decide +kernel
theorem dc_Mod_act_243 : decode prog_10_method_43_code 243 = .ok (.iload_n 2, 1) := by decide +kernel
theorem dc_Mod_act_244 : decode prog_10_method_43_code 244 = .ok (.iload_n 3, 1) := by decide +kernel
theorem dc_Mod_act_245 : decode prog_10_method_43_code 245 = .ok (.iastore, 1) := by decide +kernel
theorem dc_Mod_act_246 : decode prog_10_method_43_code 246 = .ok (.goto 16, 3) := by decide +kernel
theorem dc_Mod_act_249 : decode prog_10_method_43_code 249 = .ok (.aload_n 0, 1) := by decide +kernel
theorem dc_Mod_act_250 : decode prog_10_method_43_code 250 = .ok (.getfield 53, 3) := by decide +kernel
theorem dc_Mod_act_253 : decode prog_10_method_43_code 253 = .ok (.iload_n 2, 1) := by decide +kernel
theorem dc_Mod_act_254 : decode prog_10_method_43_code 254 = .ok (.aload_n 0, 1) := by decide +kernel
theorem dc_Mod_act_255 : decode prog_10_method_43_code 255 = .ok (.getfield 241, 3) := by decide +kernel
theorem dc_Mod_act_258 : decode prog_10_method_43_code 258 = .ok (.iastore, 1) := by decide +kernel
theorem dc_Mod_act_259 : decode prog_10_method_43_code 259 = .ok (.goto 3, 3) := by decide +kernel
theorem dc_Mod_act_262 : decode prog_10_method_43_code 262 = .ok (.return_, 1) := by decide +kernel
theorem dc_Mod_has_0 : decode prog_10_method_44_code 0 = .ok (.iload_n 1, 1) := by decide +kernel
theorem dc_Mod_has_1 : decode prog_10_method_44_code 1 = .ok (.tableswitch 115 0 5 #[39, 41, 49, 63, 78, 93], 39) := by decide +kernel
theorem dc_Mod_has_40 : decode prog_10_method_44_code 40 = .ok (.iconst 1, 1) := by decide +kernel
theorem dc_Mod_has_41 : decode prog_10_method_44_code 41 = .ok (.ireturn, 1) := by decide +kernel
theorem dc_Mod_has_42 : decode prog_10_method_44_code 42 = .ok (.aload_n 0, 1) := by decide +kernel
theorem dc_Mod_has_43 : decode prog_10_method_44_code 43 = .ok (.iload_n 2, 1) := by decide +kernel
theorem dc_Mod_has_44 : decode prog_10_method_44_code 44 = .ok (.iconst 1, 1) := by decide +kernel
theorem dc_Mod_has_45 : decode prog_10_method_44_code 45 = .ok (.iconst 0, 1) := by decide +kernel
theorem dc_Mod_has_46 : decode prog_10_method_44_code 46 = .ok (.invokevirtual 212, 3) := by decide +kernel
theorem dc_Mod_has_49 : decode prog_10_method_44_code 49 = .ok (.ireturn, 1) := by decide +kernel
theorem dc_Mod_has_50 : decode prog_10_method_44_code 50 = .ok (.aload_n 0, 1) := by decide +kernel
theorem dc_Mod_has_51 : decode prog_10_method_44_code 51 = .ok (.iload_n 3, 1) := by decide +kernel
theorem dc_Mod_has_52 : decode prog_10_method_44_code 52 = .ok (.invokevirtual 222, 3) := by decide +kernel
theorem dc_Mod_has_55 : decode prog_10_method_44_code 55 = .ok (.aload_n 0, 1) := by decide +kernel
theorem dc_Mod_has_56 : decode prog_10_method_44_code 56 = .ok (.iload_n 2, 1) := by decide +kernel
theorem dc_Mod_has_57 : decode prog_10_method_44_code 57 = .ok (.bipush 8, 2) := by decide +kernel
theorem dc_Mod_has_59 : decode prog_10_method_44_code 59 = .ok (.iconst 0, 1) := by decide +kernel
theorem dc_Mod_has_60 : decode prog_10_method_44_code 60 = .ok (.invokevirtual 212, 3) := by decide +kernel
theorem dc_Mod_has_63 : decode prog_10_method_44_code 63 = .ok (.ireturn, 1) := by decide +kernel
theorem dc_Mod_has_64 : decode prog_10_method_44_code 64 = .ok (.aload_n 0, 1) := by decide +kernel
theorem dc_Mod_has_65 : decode prog_10_method_44_code 65 = .ok (.iload_n 2, 1) := by decide +kernel
theorem dc_Mod_has_66 : decode prog_10_method_44_code 66 = .ok (.invokevirtual 225, 3) := by decide +kernel
theorem dc_Mod_has_69 : decode prog_10_method_44_code 69 = .ok (.iload_n 3, 1) := by decide +kernel
theorem dc_Mod_has_70 : decode prog_10_method_44_code 70 = .ok (.if_icmp .ge 7, 3) := by decide +kernel
theorem dc_Mod_has_73 : decode prog_10_method_44_code 73 = .ok (.iconst 1, 1) := by decide +kernel
theorem dc_Mod_has_74 : decode prog_10_method_44_code 74 = .ok (.goto 4, 3) := by decide +kernel
theorem dc_Mod_has_77 : decode prog_10_method_44_code 77 = .ok (.iconst 0, 1) := by decide +kernel
theorem dc_Mod_has_78 : decode prog_10_method_44_code 78 = .ok (.ireturn, 1) := by decide +kernel
theorem dc_Mod_has_79 : decode prog_10_method_44_code 79 = .ok (.aload_n 0, 1) := by decide +kernel
theorem dc_Mod_has_80 : decode prog_10_method_44_code 80 = .ok (.iload_n 2, 1) := by decide +kernel
theorem dc_Mod_has_81 : decode prog_10_method_44_code 81 = .ok (.invokevirtual 225, 3) := by decide +kernel
theorem dc_Mod_has_84 : decode prog_10_method_44_code 84 = .ok (.iload_n 3, 1) := by decide +kernel
theorem dc_Mod_has_85 : decode prog_10_method_44_code 85 = .ok (.if_icmp .ne 7, 3) := by decide +kernel
theorem dc_Mod_has_88 : decode prog_10_method_44_code 88 = .ok (.iconst 1, 1) := by decide +kernel
theorem dc_Mod_has_89 : decode prog_10_method_44_code 89 = .ok (.goto 4, 3) := by decide +kernel
theorem dc_Mod_has_92 : decode prog_10_method_44_code 92 = .ok (.iconst 0, 1) := by decide +kernel
theorem dc_Mod_has_93 : decode prog_10_method_44_code 93 = .ok (.ireturn, 1) := by decide +kernel
theorem dc_Mod_has_94 : decode prog_10_method_44_code 94 = .ok (.aload_n 0, 1) := by decide +kernel
theorem dc_Mod_has_95 : decode prog_10_method_44_code 95 = .ok (.getfield 241, 3) := by decide +kernel
theorem dc_Mod_has_98 : decode prog_10_method_44_code 98 = .ok (.iload_n 2, 1) := by decide +kernel
theorem dc_Mod_has_99 : decode prog_10_method_44_code 99 = .ok (.if_icmp .lt 15, 3) := by decide +kernel
theorem dc_Mod_has_102 : decode prog_10_method_44_code 102 = .ok (.aload_n 0, 1) := by decide +kernel
theorem dc_Mod_has_103 : decode prog_10_method_44_code 103 = .ok (.getfield 241, 3) := by decide +kernel
theorem dc_Mod_has_106 : decode prog_10_method_44_code 106 = .ok (.iload_n 3, 1) := by decide +kernel
theorem dc_Mod_has_107 : decode prog_10_method_44_code 107 = .ok (.if_icmp .gt 7, 3) := by decide +kernel
theorem dc_Mod_has_110 : decode prog_10_method_44_code 110 = .ok (.iconst 1, 1) := by decide +kernel
theorem dc_Mod_has_111 : decode prog_10_method_44_code 111 = .ok (.goto 4, 3) := by decide +kernel
theorem dc_Mod_has_114 : decode prog_10_method_44_code 114 = .ok (.iconst 0, 1) := by decide +kernel
theorem dc_Mod_has_115 : decode prog_10_method_44_code 115 = .ok (.ireturn, 1) := by decide +kernel
theorem dc_Mod_has_116 : decode prog_10_method_44_code 116 = .ok (.aload_n 0, 1) := by decide +kernel
theorem dc_Mod_has_117 : decode prog_10_method_44_code 117 = .ok (.getfield 178, 3) := by decide +kernel
theorem dc_Mod_has_120 : decode prog_10_method_44_code 120 = .ok (.iload_n 2, 1) := by decide +kernel
theorem dc_Mod_has_121 : decode prog_10_method_44_code 121 = .ok (.if_icmp .le 7, 3) := by decide +kernel
theorem dc_Mod_has_124 : decode prog_10_method_44_code 124 = .ok (.iconst 1, 1) := by decide +kernel
theorem dc_Mod_has_125 : decode prog_10_method_44_code 125 = .ok (.goto 4, 3) := by decide +kernel
theorem dc_Mod_has_128 : decode prog_10_method_44_code 128 = .ok (.iconst 0, 1) := by decide +kernel
theorem dc_Mod_has_129 : decode prog_10_method_44_code 129 = .ok (.ireturn, 1) := by decide +kernel
theorem dc_Mod_line_0 : decode prog_10_method_45_code 0 = .ok (.aload_n 0, 1) := by decide +kernel
theorem dc_Mod_line_1 : decode prog_10_method_45_code 1 = .ok (.iconst 0, 1) := by decide +kernel
theorem dc_Mod_line_2 : decode prog_10_method_45_code 2 = .ok (.putfield 99, 3) := by decide +kernel
theorem dc_Mod_line_5 : decode prog_10_method_45_code 5 = .ok (.aload_n 0, 1) := by decide +kernel
theorem dc_Mod_line_6 : decode prog_10_method_45_code 6 = .ok (.iconst 0, 1) := by decide +kernel
theorem dc_Mod_line_7 : decode prog_10_method_45_code 7 = .ok (.iconst 1, 1) := by decide +kernel
theorem dc_Mod_line_8 : decode prog_10_method_45_code 8 = .ok (.invokevirtual 166, 3) := by decide +kernel
theorem dc_Mod_line_11 : decode prog_10_method_45_code 11 = .ok (.aload_n 0, 1) := by decide +kernel
theorem dc_Mod_line_12 : decode prog_10_method_45_code 12 = .ok (.getfield 13, 3) := by decide +kernel
theorem dc_Mod_line_15 : decode prog_10_method_45_code 15 = .ok (.iconst 0, 1) := by decide +kernel
theorem dc_Mod_line_16 : decode prog_10_method_45_code 16 = .ok (.iconst 0, 1) := by decide +kernel
theorem dc_Mod_line_17 : decode prog_10_method_45_code 17 = .ok (.iastore, 1) := by decide +kernel
theorem dc_Mod_line_18 : decode prog_10_method_45_code 18 = .ok (.aload_n 0, 1) := by decide +kernel
theorem dc_Mod_line_19 : decode prog_10_method_45_code 19 = .ok (.dup, 1) := by decide +kernel
theorem dc_Mod_line_20 : decode prog_10_method_45_code 20 = .ok (.getfield 241, 3) := by decide +kernel
theorem dc_Mod_line_23 : decode prog_10_method_45_code 23 = .ok (.iconst 1, 1) := by decide +kernel
theorem dc_Mod_line_24 : decode prog_10_method_45_code 24 = .ok (.iadd, 1) := by decide +kernel
theorem dc_Mod_line_25 : decode prog_10_method_45_code 25 = .ok (.putfield 241, 3) := by decide +kernel
theorem dc_Mod_line_28 : decode prog_10_method_45_code 28 = .ok (.aload_n 0, 1) := by decide +kernel
theorem dc_Mod_line_29 : decode prog_10_method_45_code 29 = .ok (.invokevirtual 215, 3) := by decide +kernel
theorem dc_Mod_line_32 : decode prog_10_method_45_code 32 = .ok (.iconst 0, 1) := by decide +kernel
theorem dc_Mod_line_33 : decode prog_10_method_45_code 33 = .ok (.istore_n 1, 1) := by decide +kernel
theorem dc_Mod_line_34 : decode prog_10_method_45_code 34 = .ok (.iconst 1, 1) := by decide +kernel
theorem dc_Mod_line_35 : decode prog_10_method_45_code 35 = .ok (.istore_n 2, 1) := by decide +kernel
theorem dc_Mod_line_36 : decode prog_10_method_45_code 36 = .ok (.iconst 0, 1) := by decide +kernel
theorem dc_Mod_line_37 : decode prog_10_method_45_code 37 = .ok (.istore_n 3, 1) := by decide +kernel
theorem dc_Mod_line_38 : decode prog_10_method_45_code 38 = .ok (.iload_n 3, 1) := by decide +kernel
theorem dc_Mod_line_39 : decode prog_10_method_45_code 39 = .ok (.aload_n 0, 1) := by decide +kernel
theorem dc_Mod_line_40 : decode prog_10_method_45_code 40 = .ok (.getfield 172, 3) := by decide +kernel
theorem dc_Mod_line_43 : decode prog_10_method_45_code 43 = .ok (.if_icmp .ge 116, 3) := by decide +kernel
theorem dc_Mod_line_46 : decode prog_10_method_45_code 46 = .ok (.iload_n 2, 1) := by decide +kernel
theorem dc_Mod_line_47 : decode prog_10_method_45_code 47 = .ok (.ifCond .eq 112, 3) := by decide +kernel
theorem dc_Mod_line_50 : decode prog_10_method_45_code 50 = .ok (.aload_n 0, 1) := by decide +kernel
theorem dc_Mod_line_51 : decode prog_10_method_45_code 51 = .ok (.aload_n 0, 1) := by decide +kernel
theorem dc_Mod_line_52 : decode prog_10_method_45_code 52 = .ok (.getfield 26, 3) := by decide +kernel
theorem dc_Mod_line_55 : decode prog_10_method_45_code 55 = .ok (.iload_n 3, 1) := by decide +kernel
theorem dc_Mod_line_56 : decode prog_10_method_45_code 56 = .ok (.iaload, 1) := by decide +kernel
theorem dc_Mod_line_57 : decode prog_10_method_45_code 57 = .ok (.aload_n 0, 1) := by decide +kernel
theorem dc_Mod_line_58 : decode prog_10_method_45_code 58 = .ok (.getfield 29, 3) := by decide +kernel
theorem dc_Mod_line_61 : decode prog_10_method_45_code 61 = .ok (.iload_n 3, 1) := by decide +kernel
theorem dc_Mod_line_62 : decode prog_10_method_45_code 62 = .ok (.iaload, 1) := by decide +kernel
theorem dc_Mod_line_63 : decode prog_10_method_45_code 63 = .ok (.aload_n 0, 1) := by decide +kernel
theorem dc_Mod_line_64 : decode prog_10_method_45_code 64 = .ok (.getfield 32, 3) := by decide +kernel
theorem dc_Mod_line_67 : decode prog_10_method_45_code 67 = .ok (.iload_n 3, 1) := by decide +kernel
theorem dc_Mod_line_68 : decode prog_10_method_45_code 68 = .ok (.iaload, 1) := by decide +kernel
theorem dc_Mod_line_69 : decode prog_10_method_45_code 69 = .ok (.invokevirtual 244, 3) := by decide +kernel
theorem dc_Mod_line_72 : decode prog_10_method_45_code 72 = .ok (.ifCond .eq 81, 3) := by decide +kernel
theorem dc_Mod_line_75 : decode prog_10_method_45_code 75 = .ok (.iinc 1 1, 3) := by decide +kernel
theorem dc_Mod_line_78 : decode prog_10_method_45_code 78 = .ok (.bipush 10, 2) := by decide +kernel
theorem dc_Mod_line_80 : decode prog_10_method_45_code 80 = .ok (.iload_n 3, 1) := by decide +kernel
theorem dc_Mod_line_81 : decode prog_10_method_45_code 81 = .ok (.imul, 1) := by decide +kernel
theorem dc_Mod_line_82 : decode prog_10_method_45_code 82 = .ok (.istore 4, 2) := by decide +kernel
theorem dc_Mod_line_84 : decode prog_10_method_45_code 84 = .ok (.iload 4, 2) := by decide +kernel
theorem dc_Mod_line_86 : decode prog_10_method_45_code 86 = .ok (.bipush 10, 2) := by decide +kernel
theorem dc_Mod_line_88 : decode prog_10_method_45_code 88 = .ok (.iload_n 3, 1) := by decide +kernel
theorem dc_Mod_line_89 : decode prog_10_method_45_code 89 = .ok (.imul, 1) := by decide +kernel
theorem dc_Mod_line_90 : decode prog_10_method_45_code 90 = .ok (.aload_n 0, 1) := by decide +kernel
theorem dc_Mod_line_91 : decode prog_10_method_45_code 91 = .ok (.getfield 35, 3) := by decide +kernel
theorem dc_Mod_line_94 : decode prog_10_method_45_code 94 = .ok (.iload_n 3, 1) := by decide +kernel
theorem dc_Mod_line_95 : decode prog_10_method_45_code 95 = .ok (.iaload, 1) := by decide +kernel
theorem dc_Mod_line_96 : decode prog_10_method_45_code 96 = .ok (.iadd, 1) := by decide +kernel
theorem dc_Mod_line_97 : decode prog_10_method_45_code 97 = .ok (.if_icmp .ge 56, 3) := by decide +kernel
theorem dc_Mod_line_100 : decode prog_10_method_45_code 100 = .ok (.aload_n 0, 1) := by decide +kernel
theorem dc_Mod_line_101 : decode prog_10_method_45_code 101 = .ok (.aload_n 0, 1) := by decide +kernel
theorem dc_Mod_line_102 : decode prog_10_method_45_code 102 = .ok (.getfield 38, 3) := by decide +kernel
theorem dc_Mod_line_105 : decode prog_10_method_45_code 105 = .ok (.iload 4, 2) := by decide +kernel
theorem dc_Mod_line_107 : decode prog_10_method_45_code 107 = .ok (.iaload, 1) := by decide +kernel
theorem dc_Mod_line_108 : decode prog_10_method_45_code 108 = .ok (.aload_n 0, 1) := by decide +kernel
theorem dc_Mod_line_109 : decode prog_10_method_45_code 109 = .ok (.getfield 41, 3) := by decide +kernel
theorem dc_Mod_line_112 : decode prog_10_method_45_code 112 = .ok (.iload 4, 2) := by decide +kernel
theorem dc_Mod_line_114 : decode prog_10_method_45_code 114 = .ok (.iaload, 1) := by decide +kernel
theorem dc_Mod_line_115 : decode prog_10_method_45_code 115 = .ok (.aload_n 0, 1) := by decide +kernel
theorem dc_Mod_line_116 : decode prog_10_method_45_code 116 = .ok (.getfield 44, 3) := by decide +kernel
theorem dc_Mod_line_119 : decode prog_10_method_45_code 119 = .ok (.iload 4, 2) := by decide +kernel
theorem dc_Mod_line_121 : decode prog_10_method_45_code 121 = .ok (.iaload, 1) := by decide +kernel
theorem dc_Mod_line_122 : decode prog_10_method_45_code 122 = .ok (.invokevirtual 247, 3) := by decide +kernel
theorem dc_Mod_line_125 : decode prog_10_method_45_code 125 = .ok (.iload_n 2, 1) := by decide +kernel
theorem dc_Mod_line_126 : decode prog_10_method_45_code 126 = .ok (.ifCond .eq 19, 3) := by decide +kernel
theorem dc_Mod_line_129 : decode prog_10_method_45_code 129 = .ok (.aload_n 0, 1) := by decide +kernel
theorem dc_Mod_line_130 : decode prog_10_method_45_code 130 = .ok (.getfield 38, 3) := by decide +kernel
theorem dc_Mod_line_133 : decode prog_10_method_45_code 133 = .ok (.iload 4, 2) := by decide +kernel
theorem dc_Mod_line_135 : decode prog_10_method_45_code 135 = .ok (.iaload, 1) := by decide +kernel
theorem dc_Mod_line_136 : decode prog_10_method_45_code 136 = .ok (.bipush 10, 2) := by decide +kernel
theorem dc_Mod_line_138 : decode prog_10_method_45_code 138 = .ok (.if_icmp .eq 7, 3) := by decide +kernel
theorem dc_Mod_line_141 : decode prog_10_method_45_code 141 = .ok (.iconst 1, 1) := by decide +kernel
theorem dc_Mod_line_142 : decode prog_10_method_45_code 142 = .ok (.goto 4, 3) := by decide +kernel
theorem dc_Mod_line_145 : decode prog_10_method_45_code 145 = .ok (.iconst 0, 1) := by decide +kernel
theorem dc_Mod_line_146 : decode prog_10_method_45_code 146 = .ok (.istore_n 2, 1) := by decide +kernel
theorem dc_Mod_line_147 : decode prog_10_method_45_code 147 = .ok (.iinc 4 1, 3) := by decide +kernel
theorem dc_Mod_line_150 : decode prog_10_method_45_code 150 = .ok (.goto (-66), 3) := by decide +kernel
theorem dc_Mod_line_153 : decode prog_10_method_45_code 153 = .ok (.iinc 3 1, 3) := by decide +kernel
theorem dc_Mod_line_156 : decode prog_10_method_45_code 156 = .ok (.goto (-118), 3) := by decide +kernel
theorem dc_Mod_line_159 : decode prog_10_method_45_code 159 = .ok (.iload_n 1, 1) := by decide +kernel
theorem dc_Mod_line_160 : decode prog_10_method_45_code 160 = .ok (.ireturn, 1) := by decide +kernel
theorem dc_Mod_find_0 : decode prog_10_method_46_code 0 = .ok (.aload_n 0, 1) := by decide +kernel
theorem dc_Mod_find_1 : decode prog_10_method_46_code 1 = .ok (.iload_n 1, 1) := by decide +kernel
theorem dc_Mod_find_2 : decode prog_10_method_46_code 2 = .ok (.iconst 0, 1) := by decide +kernel
theorem dc_Mod_find_3 : decode prog_10_method_46_code 3 = .ok (.iconst 5, 1) := by decide +kernel
theorem dc_Mod_find_4 : decode prog_10_method_46_code 4 = .ok (.invokestatic 142, 3) := by decide +kernel
theorem dc_Mod_find_7 : decode prog_10_method_46_code 7 = .ok (.ifCond .eq 21, 3) := by decide +kernel
theorem dc_Mod_find_10 : decode prog_10_method_46_code 10 = .ok (.iload_n 2, 1) := by decide +kernel
theorem dc_Mod_find_11 : decode prog_10_method_46_code 11 = .ok (.ifCond .lt 17, 3) := by decide +kernel
theorem dc_Mod_find_14 : decode prog_10_method_46_code 14 = .ok (.iload_n 2, 1) := by decide +kernel
theorem dc_Mod_find_15 : decode prog_10_method_46_code 15 = .ok (.aload_n 0, 1) := by decide +kernel
theorem dc_Mod_find_16 : decode prog_10_method_46_code 16 = .ok (.getfield 13, 3) := by decide +kernel
theorem dc_Mod_find_19 : decode prog_10_method_46_code 19 = .ok (.iconst 0, 1) := by decide +kernel
theorem dc_Mod_find_20 : decode prog_10_method_46_code 20 = .ok (.iaload, 1) := by decide +kernel
theorem dc_Mod_find_21 : decode prog_10_method_46_code 21 = .ok (.if_icmp .gt 7, 3) := by decide +kernel
theorem dc_Mod_find_24 : decode prog_10_method_46_code 24 = .ok (.iconst 1, 1) := by decide +kernel
theorem dc_Mod_find_25 : decode prog_10_method_46_code 25 = .ok (.goto 4, 3) := by decide +kernel
theorem dc_Mod_find_28 : decode prog_10_method_46_code 28 = .ok (.iconst 0, 1) := by decide +kernel
theorem dc_Mod_find_29 : decode prog_10_method_46_code 29 = .ok (.iconst 1, 1) := by decide +kernel
theorem dc_Mod_find_30 : decode prog_10_method_46_code 30 = .ok (.invokevirtual 106, 3) := by decide +kernel
theorem dc_Mod_find_33 : decode prog_10_method_46_code 33 = .ok (.ifCond .ne 5, 3) := by decide +kernel
theorem dc_Mod_find_36 : decode prog_10_method_46_code 36 = .ok (.iconst 0, 1) := by decide +kernel
theorem dc_Mod_find_37 : decode prog_10_method_46_code 37 = .ok (.ireturn, 1) := by decide +kernel
theorem dc_Mod_find_38 : decode prog_10_method_46_code 38 = .ok (.aload_n 0, 1) := by decide +kernel
theorem dc_Mod_find_39 : decode prog_10_method_46_code 39 = .ok (.iload_n 1, 1) := by decide +kernel
theorem dc_Mod_find_40 : decode prog_10_method_46_code 40 = .ok (.iconst 0, 1) := by decide +kernel
theorem dc_Mod_find_41 : decode prog_10_method_46_code 41 = .ok (.iload_n 2, 1) := by decide +kernel
theorem dc_Mod_find_42 : decode prog_10_method_46_code 42 = .ok (.invokevirtual 212, 3) := by decide +kernel
theorem dc_Mod_find_45 : decode prog_10_method_46_code 45 = .ok (.istore_n 3, 1) := by decide +kernel
theorem dc_Mod_find_46 : decode prog_10_method_46_code 46 = .ok (.aload_n 0, 1) := by decide +kernel
theorem dc_Mod_find_47 : decode prog_10_method_46_code 47 = .ok (.iload_n 3, 1) := by decide +kernel
theorem dc_Mod_find_48 : decode prog_10_method_46_code 48 = .ok (.ifCond .eq 10, 3) := by decide +kernel
theorem dc_Mod_find_51 : decode prog_10_method_46_code 51 = .ok (.aload_n 0, 1) := by decide +kernel
theorem dc_Mod_find_52 : decode prog_10_method_46_code 52 = .ok (.getfield 163, 3) := by decide +kernel
theorem dc_Mod_find_55 : decode prog_10_method_46_code 55 = .ok (.goto 4, 3) := by decide +kernel
theorem dc_Mod_find_58 : decode prog_10_method_46_code 58 = .ok (.iconst (-1), 1) := by decide +kernel
theorem dc_Mod_find_59 : decode prog_10_method_46_code 59 = .ok (.putfield 68, 3) := by decide +kernel
theorem dc_Mod_find_62 : decode prog_10_method_46_code 62 = .ok (.iload_n 3, 1) := by decide +kernel
theorem dc_Mod_find_63 : decode prog_10_method_46_code 63 = .ok (.ifCond .eq 10, 3) := by decide +kernel
theorem dc_Mod_find_66 : decode prog_10_method_46_code 66 = .ok (.aload_n 0, 1) := by decide +kernel
theorem dc_Mod_find_67 : decode prog_10_method_46_code 67 = .ok (.getfield 160, 3) := by decide +kernel
theorem dc_Mod_find_70 : decode prog_10_method_46_code 70 = .ok (.goto 4, 3) := by decide +kernel
theorem dc_Mod_find_73 : decode prog_10_method_46_code 73 = .ok (.iconst (-1), 1) := by decide +kernel
theorem dc_Mod_find_74 : decode prog_10_method_46_code 74 = .ok (.ireturn, 1) := by decide +kernel
theorem dc_Mod_end_0 : decode prog_10_method_47_code 0 = .ok (.aload_n 0, 1) := by decide +kernel
theorem dc_Mod_end_1 : decode prog_10_method_47_code 1 = .ok (.iconst 0, 1) := by decide +kernel
theorem dc_Mod_end_2 : decode prog_10_method_47_code 2 = .ok (.putfield 99, 3) := by decide +kernel
theorem dc_Mod_end_5 : decode prog_10_method_47_code 5 = .ok (.aload_n 0, 1) := by decide +kernel
theorem dc_Mod_end_6 : decode prog_10_method_47_code 6 = .ok (.getfield 68, 3) := by decide +kernel
theorem dc_Mod_end_9 : decode prog_10_method_47_code 9 = .ok (.ireturn, 1) := by decide +kernel
theorem dc_Mod_sign_0 : decode prog_10_method_48_code 0 = .ok (.iload_n 1, 1) := by decide +kernel
theorem dc_Mod_sign_1 : decode prog_10_method_48_code 1 = .ok (.ifCond .ne 12, 3) := by decide +kernel
theorem dc_Mod_sign_4 : decode prog_10_method_48_code 4 = .ok (.aload_n 0, 1) := by decide +kernel
theorem dc_Mod_sign_5 : decode prog_10_method_48_code 5 = .ok (.getfield 13, 3) := by decide +kernel
theorem dc_Mod_sign_8 : decode prog_10_method_48_code 8 = .ok (.iconst 1, 1) := by decide +kernel
theorem dc_Mod_sign_9 : decode prog_10_method_48_code 9 = .ok (.iaload, 1) := by decide +kernel
theorem dc_Mod_sign_10 : decode prog_10_method_48_code 10 = .ok (.goto 25, 3) := by decide +kernel
theorem dc_Mod_sign_13 : decode prog_10_method_48_code 13 = .ok (.iload_n 1, 1) := by decide +kernel
theorem dc_Mod_sign_14 : decode prog_10_method_48_code 14 = .ok (.iconst 1, 1) := by decide +kernel
theorem dc_Mod_sign_15 : decode prog_10_method_48_code 15 = .ok (.if_icmp .lt 19, 3) := by decide +kernel
theorem dc_Mod_sign_18 : decode prog_10_method_48_code 18 = .ok (.iload_n 1, 1) := by decide +kernel
theorem dc_Mod_sign_19 : decode prog_10_method_48_code 19 = .ok (.aload_n 0, 1) := by decide +kernel
theorem dc_Mod_sign_20 : decode prog_10_method_48_code 20 = .ok (.getfield 178, 3) := by decide +kernel
theorem dc_Mod_sign_23 : decode prog_10_method_48_code 23 = .ok (.if_icmp .gt 11, 3) := by decide +kernel
theorem dc_Mod_sign_26 : decode prog_10_method_48_code 26 = .ok (.aload_n 0, 1) := by decide +kernel
theorem dc_Mod_sign_27 : decode prog_10_method_48_code 27 = .ok (.iload_n 1, 1) := by decide +kernel
theorem dc_Mod_sign_28 : decode prog_10_method_48_code 28 = .ok (.invokevirtual 184, 3) := by decide +kernel
theorem dc_Mod_sign_31 : decode prog_10_method_48_code 31 = .ok (.goto 4, 3) := by decide +kernel
theorem dc_Mod_sign_34 : decode prog_10_method_48_code 34 = .ok (.iconst (-1), 1) := by decide +kernel
theorem dc_Mod_sign_35 : decode prog_10_method_48_code 35 = .ok (.istore_n 3, 1) := by decide +kernel
theorem dc_Mod_sign_36 : decode prog_10_method_48_code 36 = .ok (.aload_n 0, 1) := by decide +kernel
theorem dc_Mod_sign_37 : decode prog_10_method_48_code 37 = .ok (.iload_n 3, 1) := by decide +kernel
theorem dc_Mod_sign_38 : decode prog_10_method_48_code 38 = .ok (.iconst (-1), 1) := by decide +kernel
theorem dc_Mod_sign_39 : decode prog_10_method_48_code 39 = .ok (.if_icmp .eq 17, 3) := by decide +kernel
theorem dc_Mod_sign_42 : decode prog_10_method_48_code 42 = .ok (.iload_n 2, 1) := by decide +kernel
theorem dc_Mod_sign_43 : decode prog_10_method_48_code 43 = .ok (.iconst (-1), 1) := by decide +kernel
theorem dc_Mod_sign_44 : decode prog_10_method_48_code 44 = .ok (.if_icmp .lt 12, 3) := by decide +kernel
theorem dc_Mod_sign_47 : decode prog_10_method_48_code 47 = .ok (.iload_n 2, 1) := by decide +kernel
theorem dc_Mod_sign_48 : decode prog_10_method_48_code 48 = .ok (.iload_n 3, 1) := by decide +kernel
theorem dc_Mod_sign_49 : decode prog_10_method_48_code 49 = .ok (.if_icmp .ge 7, 3) := by decide +kernel
theorem dc_Mod_sign_52 : decode prog_10_method_48_code 52 = .ok (.iconst 1, 1) := by decide +kernel
theorem dc_Mod_sign_53 : decode prog_10_method_48_code 53 = .ok (.goto 4, 3) := by decide +kernel
theorem dc_Mod_sign_56 : decode prog_10_method_48_code 56 = .ok (.iconst 0, 1) := by decide +kernel
theorem dc_Mod_sign_57 : decode prog_10_method_48_code 57 = .ok (.iconst 1, 1) := by decide +kernel
theorem dc_Mod_sign_58 : decode prog_10_method_48_code 58 = .ok (.invokevirtual 106, 3) := by decide +kernel
theorem dc_Mod_sign_61 : decode prog_10_method_48_code 61 = .ok (.ifCond .ne 5, 3) := by decide +kernel
theorem dc_Mod_sign_64 : decode prog_10_method_48_code 64 = .ok (.iconst 0, 1) := by decide +kernel
theorem dc_Mod_sign_65 : decode prog_10_method_48_code 65 = .ok (.ireturn, 1) := by decide +kernel
theorem dc_Mod_sign_66 : decode prog_10_method_48_code 66 = .ok (.iload_n 2, 1) := by decide +kernel
theorem dc_Mod_sign_67 : decode prog_10_method_48_code 67 = .ok (.iconst (-1), 1) := by decide +kernel
theorem dc_Mod_sign_68 : decode prog_10_method_48_code 68 = .ok (.if_icmp .ne 7, 3) := by decide +kernel
theorem dc_Mod_sign_71 : decode prog_10_method_48_code 71 = .ok (.iload_n 3, 1) := by decide +kernel
theorem dc_Mod_sign_72 : decode prog_10_method_48_code 72 = .ok (.goto 25, 3) := by decide +kernel
theorem dc_Mod_sign_75 : decode prog_10_method_48_code 75 = .ok (.iload_n 1, 1) := by decide +kernel
theorem dc_Mod_sign_76 : decode prog_10_method_48_code 76 = .ok (.ifCond .ne 15, 3) := by decide +kernel
theorem dc_Mod_sign_79 : decode prog_10_method_48_code 79 = .ok (.aload_n 0, 1) := by decide +kernel
theorem dc_Mod_sign_80 : decode prog_10_method_48_code 80 = .ok (.getfield 7, 3) := by decide +kernel
theorem dc_Mod_sign_83 : decode prog_10_method_48_code 83 = .ok (.bipush 120, 2) := by decide +kernel
theorem dc_Mod_sign_85 : decode prog_10_method_48_code 85 = .ok (.iload_n 2, 1) := by decide +kernel
theorem dc_Mod_sign_86 : decode prog_10_method_48_code 86 = .ok (.iadd, 1) := by decide +kernel
theorem dc_Mod_sign_87 : decode prog_10_method_48_code 87 = .ok (.iaload, 1) := by decide +kernel
theorem dc_Mod_sign_88 : decode prog_10_method_48_code 88 = .ok (.goto 9, 3) := by decide +kernel
theorem dc_Mod_sign_91 : decode prog_10_method_48_code 91 = .ok (.aload_n 0, 1) := by decide +kernel
theorem dc_Mod_sign_92 : decode prog_10_method_48_code 92 = .ok (.iload_n 1, 1) := by decide +kernel
theorem dc_Mod_sign_93 : decode prog_10_method_48_code 93 = .ok (.iload_n 2, 1) := by decide +kernel
theorem dc_Mod_sign_94 : decode prog_10_method_48_code 94 = .ok (.invokevirtual 187, 3) := by decide +kernel
theorem dc_Mod_sign_97 : decode prog_10_method_48_code 97 = .ok (.ireturn, 1) := by decide +kernel
theorem dc_Mod_printed_0 : decode prog_10_method_49_code 0 = .ok (.aload_n 0, 1) := by decide +kernel
theorem dc_Mod_printed_1 : decode prog_10_method_49_code 1 = .ok (.iload_n 1, 1) := by decide +kernel
theorem dc_Mod_printed_2 : decode prog_10_method_49_code 2 = .ok (.ifCond .lt 27, 3) := by decide +kernel
theorem dc_Mod_printed_5 : decode prog_10_method_49_code 5 = .ok (.iload_n 1, 1) := by decide +kernel
theorem dc_Mod_printed_6 : decode prog_10_method_49_code 6 = .ok (.aload_n 0, 1) := by decide +kernel
theorem dc_Mod_printed_7 : decode prog_10_method_49_code 7 = .ok (.getfield 190, 3) := by decide +kernel
theorem dc_Mod_printed_10 : decode prog_10_method_49_code 10 = .ok (.if_icmp .ge 19, 3) := by decide +kernel
theorem dc_Mod_printed_13 : decode prog_10_method_49_code 13 = .ok (.iload_n 1, 1) := by decide +kernel
theorem dc_Mod_printed_14 : decode prog_10_method_49_code 14 = .ok (.aload_n 0, 1) := by decide +kernel
theorem dc_Mod_printed_15 : decode prog_10_method_49_code 15 = .ok (.getfield 190, 3) := by decide +kernel
theorem dc_Mod_printed_18 : decode prog_10_method_49_code 18 = .ok (.sipush 1500, 3) := by decide +kernel
theorem dc_Mod_printed_21 : decode prog_10_method_49_code 21 = .ok (.isub, 1) := by decide +kernel
theorem dc_Mod_printed_22 : decode prog_10_method_49_code 22 = .ok (.if_icmp .lt 7, 3) := by decide +kernel
theorem dc_Mod_printed_25 : decode prog_10_method_49_code 25 = .ok (.iconst 1, 1) := by decide +kernel
theorem dc_Mod_printed_26 : decode prog_10_method_49_code 26 = .ok (.goto 4, 3) := by decide +kernel
theorem dc_Mod_printed_29 : decode prog_10_method_49_code 29 = .ok (.iconst 0, 1) := by decide +kernel
theorem dc_Mod_printed_30 : decode prog_10_method_49_code 30 = .ok (.iconst 1, 1) := by decide +kernel
theorem dc_Mod_printed_31 : decode prog_10_method_49_code 31 = .ok (.invokevirtual 106, 3) := by decide +kernel
theorem dc_Mod_printed_34 : decode prog_10_method_49_code 34 = .ok (.ifCond .eq 16, 3) := by decide +kernel
theorem dc_Mod_printed_37 : decode prog_10_method_49_code 37 = .ok (.aload_n 0, 1) := by decide +kernel
theorem dc_Mod_printed_38 : decode prog_10_method_49_code 38 = .ok (.getfield 65, 3) := by decide +kernel
theorem dc_Mod_printed_41 : decode prog_10_method_49_code 41 = .ok (.iload_n 1, 1) := by decide +kernel
theorem dc_Mod_printed_42 : decode prog_10_method_49_code 42 = .ok (.sipush 1500, 3) := by decide +kernel
theorem dc_Mod_printed_45 : decode prog_10_method_49_code 45 = .ok (.irem, 1) := by decide +kernel
theorem dc_Mod_printed_46 : decode prog_10_method_49_code 46 = .ok (.iaload, 1) := by decide +kernel
theorem dc_Mod_printed_47 : decode prog_10_method_49_code 47 = .ok (.goto 4, 3) := by decide +kernel
theorem dc_Mod_printed_50 : decode prog_10_method_49_code 50 = .ok (.iconst 0, 1) := by decide +kernel
theorem dc_Mod_printed_51 : decode prog_10_method_49_code 51 = .ok (.ireturn, 1) := by decide +kernel
theorem dc_Mod_counter_0 : decode prog_10_method_50_code 0 = .ok (.aload_n 0, 1) := by decide +kernel
theorem dc_Mod_counter_1 : decode prog_10_method_50_code 1 = .ok (.iload_n 1, 1) := by decide +kernel
theorem dc_Mod_counter_2 : decode prog_10_method_50_code 2 = .ok (.iconst 0, 1) := by decide +kernel
theorem dc_Mod_counter_3 : decode prog_10_method_50_code 3 = .ok (.bipush 7, 2) := by decide +kernel
theorem dc_Mod_counter_5 : decode prog_10_method_50_code 5 = .ok (.invokestatic 142, 3) := by decide +kernel
theorem dc_Mod_counter_8 : decode prog_10_method_50_code 8 = .ok (.iconst 1, 1) := by decide +kernel
theorem dc_Mod_counter_9 : decode prog_10_method_50_code 9 = .ok (.invokevirtual 106, 3) := by decide +kernel
theorem dc_Mod_counter_12 : decode prog_10_method_50_code 12 = .ok (.ifCond .eq 12, 3) := by decide +kernel
theorem dc_Mod_counter_15 : decode prog_10_method_50_code 15 = .ok (.aload_n 0, 1) := by decide +kernel
theorem dc_Mod_counter_16 : decode prog_10_method_50_code 16 = .ok (.getfield 53, 3) := by decide +kernel
theorem dc_Mod_counter_19 : decode prog_10_method_50_code 19 = .ok (.iload_n 1, 1) := by decide +kernel
theorem dc_Mod_counter_20 : decode prog_10_method_50_code 20 = .ok (.iaload, 1) := by decide +kernel
theorem dc_Mod_counter_21 : decode prog_10_method_50_code 21 = .ok (.goto 4, 3) := by decide +kernel
theorem dc_Mod_counter_24 : decode prog_10_method_50_code 24 = .ok (.iconst 0, 1) := by decide +kernel
theorem dc_Mod_counter_25 : decode prog_10_method_50_code 25 = .ok (.ireturn, 1) := by decide +kernel
theorem dc_Mod_key_0 : decode prog_10_method_51_code 0 = .ok (.iload_n 1, 1) := by decide +kernel
theorem dc_Mod_key_1 : decode prog_10_method_51_code 1 = .ok (.ifCond .lt 21, 3) := by decide +kernel
theorem dc_Mod_key_4 : decode prog_10_method_51_code 4 = .ok (.iload_n 1, 1) := by decide +kernel
theorem dc_Mod_key_5 : decode prog_10_method_51_code 5 = .ok (.aload_n 0, 1) := by decide +kernel
theorem dc_Mod_key_6 : decode prog_10_method_51_code 6 = .ok (.getfield 200, 3) := by decide +kernel
theorem dc_Mod_key_9 : decode prog_10_method_51_code 9 = .ok (.if_icmp .ge 13, 3) := by decide +kernel
theorem dc_Mod_key_12 : decode prog_10_method_51_code 12 = .ok (.iload_n 2, 1) := by decide +kernel
theorem dc_Mod_key_13 : decode prog_10_method_51_code 13 = .ok (.bipush (-2), 2) := by decide +kernel
theorem dc_Mod_key_15 : decode prog_10_method_51_code 15 = .ok (.if_icmp .lt 7, 3) := by decide +kernel
theorem dc_Mod_key_18 : decode prog_10_method_51_code 18 = .ok (.iconst 1, 1) := by decide +kernel
theorem dc_Mod_key_19 : decode prog_10_method_51_code 19 = .ok (.goto 4, 3) := by decide +kernel
theorem dc_Mod_key_22 : decode prog_10_method_51_code 22 = .ok (.iconst 0, 1) := by decide +kernel
theorem dc_Mod_key_23 : decode prog_10_method_51_code 23 = .ok (.istore_n 3, 1) := by decide +kernel
theorem dc_Mod_key_24 : decode prog_10_method_51_code 24 = .ok (.aload_n 0, 1) := by decide +kernel
theorem dc_Mod_key_25 : decode prog_10_method_51_code 25 = .ok (.iload_n 3, 1) := by decide +kernel
theorem dc_Mod_key_26 : decode prog_10_method_51_code 26 = .ok (.ifCond .eq 17, 3) := by decide +kernel
theorem dc_Mod_key_29 : decode prog_10_method_51_code 29 = .ok (.iload_n 2, 1) := by decide +kernel
theorem dc_Mod_key_30 : decode prog_10_method_51_code 30 = .ok (.aload_n 0, 1) := by decide +kernel
theorem dc_Mod_key_31 : decode prog_10_method_51_code 31 = .ok (.getfield 59, 3) := by decide +kernel
theorem dc_Mod_key_34 : decode prog_10_method_51_code 34 = .ok (.iload_n 1, 1) := by decide +kernel
theorem dc_Mod_key_35 : decode prog_10_method_51_code 35 = .ok (.iaload, 1) := by decide +kernel
theorem dc_Mod_key_36 : decode prog_10_method_51_code 36 = .ok (.if_icmp .ge 7, 3) := by decide +kernel
theorem dc_Mod_key_39 : decode prog_10_method_51_code 39 = .ok (.iconst 1, 1) := by decide +kernel
theorem dc_Mod_key_40 : decode prog_10_method_51_code 40 = .ok (.goto 4, 3) := by decide +kernel
theorem dc_Mod_key_43 : decode prog_10_method_51_code 43 = .ok (.iconst 0, 1) := by decide +kernel
theorem dc_Mod_key_44 : decode prog_10_method_51_code 44 = .ok (.iconst 1, 1) := by decide +kernel
theorem dc_Mod_key_45 : decode prog_10_method_51_code 45 = .ok (.invokevirtual 106, 3) := by decide +kernel
theorem dc_Mod_key_48 : decode prog_10_method_51_code 48 = .ok (.ifCond .ne 5, 3) := by decide +kernel
theorem dc_Mod_key_51 : decode prog_10_method_51_code 51 = .ok (.iconst 0, 1) := by decide +kernel
theorem dc_Mod_key_52 : decode prog_10_method_51_code 52 = .ok (.ireturn, 1) := by decide +kernel
theorem dc_Mod_key_53 : decode prog_10_method_51_code 53 = .ok (.iload_n 2, 1) := by decide +kernel
theorem dc_Mod_key_54 : decode prog_10_method_51_code 54 = .ok (.bipush (-2), 2) := by decide +kernel
theorem dc_Mod_key_56 : decode prog_10_method_51_code 56 = .ok (.if_icmp .ne 12, 3) := by decide +kernel
theorem dc_Mod_key_59 : decode prog_10_method_51_code 59 = .ok (.aload_n 0, 1) := by decide +kernel
theorem dc_Mod_key_60 : decode prog_10_method_51_code 60 = .ok (.getfield 62, 3) := by decide +kernel
theorem dc_Mod_key_63 : decode prog_10_method_51_code 63 = .ok (.iload_n 1, 1) := by decide +kernel
theorem dc_Mod_key_64 : decode prog_10_method_51_code 64 = .ok (.iaload, 1) := by decide +kernel
theorem dc_Mod_key_65 : decode prog_10_method_51_code 65 = .ok (.goto 28, 3) := by decide +kernel
theorem dc_Mod_key_68 : decode prog_10_method_51_code 68 = .ok (.iload_n 2, 1) := by decide +kernel
theorem dc_Mod_key_69 : decode prog_10_method_51_code 69 = .ok (.iconst (-1), 1) := by decide +kernel
theorem dc_Mod_key_70 : decode prog_10_method_51_code 70 = .ok (.if_icmp .ne 12, 3) := by decide +kernel
theorem dc_Mod_key_73 : decode prog_10_method_51_code 73 = .ok (.aload_n 0, 1) := by decide +kernel
theorem dc_Mod_key_74 : decode prog_10_method_51_code 74 = .ok (.getfield 59, 3) := by decide +kernel
theorem dc_Mod_key_77 : decode prog_10_method_51_code 77 = .ok (.iload_n 1, 1) := by decide +kernel
theorem dc_Mod_key_78 : decode prog_10_method_51_code 78 = .ok (.iaload, 1) := by decide +kernel
theorem dc_Mod_key_79 : decode prog_10_method_51_code 79 = .ok (.goto 14, 3) := by decide +kernel
theorem dc_Mod_key_82 : decode prog_10_method_51_code 82 = .ok (.aload_n 0, 1) := by decide +kernel
theorem dc_Mod_key_83 : decode prog_10_method_51_code 83 = .ok (.getfield 56, 3) := by decide +kernel
theorem dc_Mod_key_86 : decode prog_10_method_51_code 86 = .ok (.bipush 120, 2) := by decide +kernel
theorem dc_Mod_key_88 : decode prog_10_method_51_code 88 = .ok (.iload_n 1, 1) := by decide +kernel
theorem dc_Mod_key_89 : decode prog_10_method_51_code 89 = .ok (.imul, 1) := by decide +kernel
theorem dc_Mod_key_90 : decode prog_10_method_51_code 90 = .ok (.iload_n 2, 1) := by decide +kernel
theorem dc_Mod_key_91 : decode prog_10_method_51_code 91 = .ok (.iadd, 1) := by decide +kernel
theorem dc_Mod_key_92 : decode prog_10_method_51_code 92 = .ok (.iaload, 1) := by decide +kernel
theorem dc_Mod_key_93 : decode prog_10_method_51_code 93 = .ok (.ireturn, 1) := by decide +kernel
theorem dc_Mod_count_0 : decode prog_10_method_52_code 0 = .ok (.aload_n 0, 1) := by decide +kernel
theorem dc_Mod_count_1 : decode prog_10_method_52_code 1 = .ok (.iload_n 1, 1) := by decide +kernel
theorem dc_Mod_count_2 : decode prog_10_method_52_code 2 = .ok (.iconst 0, 1) := by decide +kernel
theorem dc_Mod_count_3 : decode prog_10_method_52_code 3 = .ok (.iconst 5, 1) := by decide +kernel
theorem dc_Mod_count_4 : decode prog_10_method_52_code 4 = .ok (.invokestatic 142, 3) := by decide +kernel
theorem dc_Mod_count_7 : decode prog_10_method_52_code 7 = .ok (.iconst 1, 1) := by decide +kernel
theorem dc_Mod_count_8 : decode prog_10_method_52_code 8 = .ok (.invokevirtual 106, 3) := by decide +kernel
theorem dc_Mod_count_11 : decode prog_10_method_52_code 11 = .ok (.ifCond .ne 5, 3) := by decide +kernel
theorem dc_Mod_count_14 : decode prog_10_method_52_code 14 = .ok (.iconst 0, 1) := by decide +kernel
theorem dc_Mod_count_15 : decode prog_10_method_52_code 15 = .ok (.ireturn, 1) := by decide +kernel
theorem dc_Mod_count_16 : decode prog_10_method_52_code 16 = .ok (.iload_n 1, 1) := by decide +kernel
theorem dc_Mod_count_17 : decode prog_10_method_52_code 17 = .ok (.tableswitch 62 0 4 #[35, 42, 47, 52, 57], 35) := by decide +kernel
theorem dc_Mod_count_52 : decode prog_10_method_52_code 52 = .ok (.aload_n 0, 1) := by decide +kernel
theorem dc_Mod_count_53 : decode prog_10_method_52_code 53 = .ok (.getfield 13, 3) := by decide +kernel
theorem dc_Mod_count_56 : decode prog_10_method_52_code 56 = .ok (.iconst 0, 1) := by decide +kernel
theorem dc_Mod_count_57 : decode prog_10_method_52_code 57 = .ok (.iaload, 1) := by decide +kernel
theorem dc_Mod_count_58 : decode prog_10_method_52_code 58 = .ok (.ireturn, 1) := by decide +kernel
theorem dc_Mod_count_59 : decode prog_10_method_52_code 59 = .ok (.aload_n 0, 1) := by decide +kernel
theorem dc_Mod_count_60 : decode prog_10_method_52_code 60 = .ok (.getfield 172, 3) := by decide +kernel
theorem dc_Mod_count_63 : decode prog_10_method_52_code 63 = .ok (.ireturn, 1) := by decide +kernel
theorem dc_Mod_count_64 : decode prog_10_method_52_code 64 = .ok (.aload_n 0, 1) := by decide +kernel
theorem dc_Mod_count_65 : decode prog_10_method_52_code 65 = .ok (.getfield 241, 3) := by decide +kernel
theorem dc_Mod_count_68 : decode prog_10_method_52_code 68 = .ok (.ireturn, 1) := by decide +kernel
theorem dc_Mod_count_69 : decode prog_10_method_52_code 69 = .ok (.aload_n 0, 1) := by decide +kernel
theorem dc_Mod_count_70 : decode prog_10_method_52_code 70 = .ok (.getfield 178, 3) := by decide +kernel
theorem dc_Mod_count_73 : decode prog_10_method_52_code 73 = .ok (.ireturn, 1) := by decide +kernel
theorem dc_Mod_count_74 : decode prog_10_method_52_code 74 = .ok (.aload_n 0, 1) := by decide +kernel
theorem dc_Mod_count_75 : decode prog_10_method_52_code 75 = .ok (.getfield 190, 3) := by decide +kernel
theorem dc_Mod_count_78 : decode prog_10_method_52_code 78 = .ok (.ireturn, 1) := by decide +kernel
theorem dc_Mod_count_79 : decode prog_10_method_52_code 79 = .ok (.aload_n 0, 1) := by decide +kernel
theorem dc_Mod_count_80 : decode prog_10_method_52_code 80 = .ok (.getfield 200, 3) := by decide +kernel
theorem dc_Mod_count_83 : decode prog_10_method_52_code 83 = .ok (.ireturn, 1) := by decide +kernel
