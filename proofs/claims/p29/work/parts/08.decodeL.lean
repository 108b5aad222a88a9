theorem dL_cell_0 : decode cL_cell 0 = .ok (.iload_n 1, 1) := by decide +kernel
theorem dL_cell_1 : decode cL_cell 1 = .ok (.aload_n 0, 1) := by decide +kernel
theorem dL_cell_2 : decode cL_cell 2 = .ok (.arraylength, 1) := by decide +kernel
theorem dL_cell_3 : decode cL_cell 3 = .ok (.if_icmp .ge 9, 3) := by decide +kernel
theorem dL_cell_6 : decode cL_cell 6 = .ok (.aload_n 0, 1) := by decide +kernel
theorem dL_cell_7 : decode cL_cell 7 = .ok (.iload_n 1, 1) := by decide +kernel
theorem dL_cell_8 : decode cL_cell 8 = .ok (.iaload, 1) := by decide +kernel
theorem dL_cell_9 : decode cL_cell 9 = .ok (.goto 10, 3) := by decide +kernel
theorem dL_cell_12 : decode cL_cell 12 = .ok (.ldc 7, 2) := by decide +kernel
theorem dL_cell_14 : decode cL_cell 14 = .ok (.iload_n 1, 1) := by decide +kernel
theorem dL_cell_15 : decode cL_cell 15 = .ok (.imul, 1) := by decide +kernel
theorem dL_cell_16 : decode cL_cell 16 = .ok (.bipush 109, 2) := by decide +kernel
theorem dL_cell_18 : decode cL_cell 18 = .ok (.iadd, 1) := by decide +kernel
theorem dL_cell_19 : decode cL_cell 19 = .ok (.ldc 8, 2) := by decide +kernel
theorem dL_cell_21 : decode cL_cell 21 = .ok (.iand, 1) := by decide +kernel
theorem dL_cell_22 : decode cL_cell 22 = .ok (.ireturn, 1) := by decide +kernel
theorem dL_draws_0 : decode cL_draws 0 = .ok (.aload_n 2, 1) := by decide +kernel
theorem dL_draws_1 : decode cL_draws 1 = .ok (.iconst 0, 1) := by decide +kernel
theorem dL_draws_2 : decode cL_draws 2 = .ok (.iconst 1, 1) := by decide +kernel
theorem dL_draws_3 : decode cL_draws 3 = .ok (.aload_n 0, 1) := by decide +kernel
theorem dL_draws_4 : decode cL_draws 4 = .ok (.iload_n 1, 1) := by decide +kernel
theorem dL_draws_5 : decode cL_draws 5 = .ok (.invokestatic 9, 3) := by decide +kernel
theorem dL_draws_8 : decode cL_draws 8 = .ok (.bipush 8, 2) := by decide +kernel
theorem dL_draws_10 : decode cL_draws 10 = .ok (.irem, 1) := by decide +kernel
theorem dL_draws_11 : decode cL_draws 11 = .ok (.iadd, 1) := by decide +kernel
theorem dL_draws_12 : decode cL_draws 12 = .ok (.iastore, 1) := by decide +kernel
theorem dL_draws_13 : decode cL_draws 13 = .ok (.iconst 0, 1) := by decide +kernel
theorem dL_draws_14 : decode cL_draws 14 = .ok (.istore 4, 2) := by decide +kernel
theorem dL_draws_16 : decode cL_draws 16 = .ok (.iload 4, 2) := by decide +kernel
theorem dL_draws_18 : decode cL_draws 18 = .ok (.bipush 8, 2) := by decide +kernel
theorem dL_draws_20 : decode cL_draws 20 = .ok (.if_icmp .ge 138, 3) := by decide +kernel
theorem dL_draws_23 : decode cL_draws 23 = .ok (.aload_n 0, 1) := by decide +kernel
theorem dL_draws_24 : decode cL_draws 24 = .ok (.iload_n 1, 1) := by decide +kernel
theorem dL_draws_25 : decode cL_draws 25 = .ok (.iconst 2, 1) := by decide +kernel
theorem dL_draws_26 : decode cL_draws 26 = .ok (.iadd, 1) := by decide +kernel
theorem dL_draws_27 : decode cL_draws 27 = .ok (.iload 4, 2) := by decide +kernel
theorem dL_draws_29 : decode cL_draws 29 = .ok (.iadd, 1) := by decide +kernel
theorem dL_draws_30 : decode cL_draws 30 = .ok (.invokestatic 9, 3) := by decide +kernel
theorem dL_draws_33 : decode cL_draws 33 = .ok (.istore 5, 2) := by decide +kernel
theorem dL_draws_35 : decode cL_draws 35 = .ok (.aload_n 2, 1) := by decide +kernel
theorem dL_draws_36 : decode cL_draws 36 = .ok (.iconst 1, 1) := by decide +kernel
theorem dL_draws_37 : decode cL_draws 37 = .ok (.iload 4, 2) := by decide +kernel
theorem dL_draws_39 : decode cL_draws 39 = .ok (.iadd, 1) := by decide +kernel
theorem dL_draws_40 : decode cL_draws 40 = .ok (.iconst 1, 1) := by decide +kernel
theorem dL_draws_41 : decode cL_draws 41 = .ok (.iload 5, 2) := by decide +kernel
theorem dL_draws_43 : decode cL_draws 43 = .ok (.bipush 12, 2) := by decide +kernel
theorem dL_draws_45 : decode cL_draws 45 = .ok (.irem, 1) := by decide +kernel
theorem dL_draws_46 : decode cL_draws 46 = .ok (.iadd, 1) := by decide +kernel
theorem dL_draws_47 : decode cL_draws 47 = .ok (.iastore, 1) := by decide +kernel
theorem dL_draws_48 : decode cL_draws 48 = .ok (.aload_n 2, 1) := by decide +kernel
theorem dL_draws_49 : decode cL_draws 49 = .ok (.bipush 9, 2) := by decide +kernel
theorem dL_draws_51 : decode cL_draws 51 = .ok (.iload 4, 2) := by decide +kernel
theorem dL_draws_53 : decode cL_draws 53 = .ok (.iadd, 1) := by decide +kernel
theorem dL_draws_54 : decode cL_draws 54 = .ok (.iload 5, 2) := by decide +kernel
theorem dL_draws_56 : decode cL_draws 56 = .ok (.bipush 8, 2) := by decide +kernel
theorem dL_draws_58 : decode cL_draws 58 = .ok (.ishr, 1) := by decide +kernel
theorem dL_draws_59 : decode cL_draws 59 = .ok (.iconst 4, 1) := by decide +kernel
theorem dL_draws_60 : decode cL_draws 60 = .ok (.irem, 1) := by decide +kernel
theorem dL_draws_61 : decode cL_draws 61 = .ok (.iastore, 1) := by decide +kernel
theorem dL_draws_62 : decode cL_draws 62 = .ok (.aload_n 2, 1) := by decide +kernel
theorem dL_draws_63 : decode cL_draws 63 = .ok (.bipush 20, 2) := by decide +kernel
theorem dL_draws_65 : decode cL_draws 65 = .ok (.iload 4, 2) := by decide +kernel
theorem dL_draws_67 : decode cL_draws 67 = .ok (.iadd, 1) := by decide +kernel
theorem dL_draws_68 : decode cL_draws 68 = .ok (.iconst 0, 1) := by decide +kernel
theorem dL_draws_69 : decode cL_draws 69 = .ok (.iastore, 1) := by decide +kernel
theorem dL_draws_70 : decode cL_draws 70 = .ok (.aload_n 0, 1) := by decide +kernel
theorem dL_draws_71 : decode cL_draws 71 = .ok (.iload_n 1, 1) := by decide +kernel
theorem dL_draws_72 : decode cL_draws 72 = .ok (.bipush 10, 2) := by decide +kernel
theorem dL_draws_74 : decode cL_draws 74 = .ok (.iadd, 1) := by decide +kernel
theorem dL_draws_75 : decode cL_draws 75 = .ok (.iconst 2, 1) := by decide +kernel
theorem dL_draws_76 : decode cL_draws 76 = .ok (.iload 4, 2) := by decide +kernel
theorem dL_draws_78 : decode cL_draws 78 = .ok (.imul, 1) := by decide +kernel
theorem dL_draws_79 : decode cL_draws 79 = .ok (.iadd, 1) := by decide +kernel
theorem dL_draws_80 : decode cL_draws 80 = .ok (.invokestatic 9, 3) := by decide +kernel
theorem dL_draws_83 : decode cL_draws 83 = .ok (.i2l, 1) := by decide +kernel
theorem dL_draws_84 : decode cL_draws 84 = .ok (.lstore 6, 2) := by decide +kernel
theorem dL_draws_86 : decode cL_draws 86 = .ok (.aload_n 0, 1) := by decide +kernel
theorem dL_draws_87 : decode cL_draws 87 = .ok (.iload_n 1, 1) := by decide +kernel
theorem dL_draws_88 : decode cL_draws 88 = .ok (.bipush 11, 2) := by decide +kernel
theorem dL_draws_90 : decode cL_draws 90 = .ok (.iadd, 1) := by decide +kernel
theorem dL_draws_91 : decode cL_draws 91 = .ok (.iconst 2, 1) := by decide +kernel
theorem dL_draws_92 : decode cL_draws 92 = .ok (.iload 4, 2) := by decide +kernel
theorem dL_draws_94 : decode cL_draws 94 = .ok (.imul, 1) := by decide +kernel
theorem dL_draws_95 : decode cL_draws 95 = .ok (.iadd, 1) := by decide +kernel
theorem dL_draws_96 : decode cL_draws 96 = .ok (.invokestatic 9, 3) := by decide +kernel
theorem dL_draws_99 : decode cL_draws 99 = .ok (.i2l, 1) := by decide +kernel
theorem dL_draws_100 : decode cL_draws 100 = .ok (.lstore 8, 2) := by decide +kernel
theorem dL_draws_102 : decode cL_draws 102 = .ok (.aload_n 3, 1) := by decide +kernel
theorem dL_draws_103 : decode cL_draws 103 = .ok (.iload 4, 2) := by decide +kernel
theorem dL_draws_105 : decode cL_draws 105 = .ok (.iload 4, 2) := by decide +kernel
theorem dL_draws_107 : decode cL_draws 107 = .ok (.ifCond .le 32, 3) := by decide +kernel
theorem dL_draws_110 : decode cL_draws 110 = .ok (.iload 5, 2) := by decide +kernel
theorem dL_draws_112 : decode cL_draws 112 = .ok (.bipush 16, 2) := by decide +kernel
theorem dL_draws_114 : decode cL_draws 114 = .ok (.ishr, 1) := by decide +kernel
theorem dL_draws_115 : decode cL_draws 115 = .ok (.iconst 3, 1) := by decide +kernel
theorem dL_draws_116 : decode cL_draws 116 = .ok (.irem, 1) := by decide +kernel
theorem dL_draws_117 : decode cL_draws 117 = .ok (.ifCond .ne 22, 3) := by decide +kernel
theorem dL_draws_120 : decode cL_draws 120 = .ok (.aload_n 3, 1) := by decide +kernel
theorem dL_draws_121 : decode cL_draws 121 = .ok (.iload 4, 2) := by decide +kernel
theorem dL_draws_123 : decode cL_draws 123 = .ok (.iconst 1, 1) := by decide +kernel
theorem dL_draws_124 : decode cL_draws 124 = .ok (.isub, 1) := by decide +kernel
theorem dL_draws_125 : decode cL_draws 125 = .ok (.laload, 1) := by decide +kernel
theorem dL_draws_126 : decode cL_draws 126 = .ok (.ldc2_w 15, 3) := by decide +kernel
theorem dL_draws_129 : decode cL_draws 129 = .ok (.land, 1) := by decide +kernel
theorem dL_draws_130 : decode cL_draws 130 = .ok (.lload 8, 2) := by decide +kernel
theorem dL_draws_132 : decode cL_draws 132 = .ok (.bipush 12, 2) := by decide +kernel
theorem dL_draws_134 : decode cL_draws 134 = .ok (.lshl, 1) := by decide +kernel
theorem dL_draws_135 : decode cL_draws 135 = .ok (.lor, 1) := by decide +kernel
theorem dL_draws_136 : decode cL_draws 136 = .ok (.goto 11, 3) := by decide +kernel
theorem dL_draws_139 : decode cL_draws 139 = .ok (.lload 6, 2) := by decide +kernel
theorem dL_draws_141 : decode cL_draws 141 = .ok (.lload 8, 2) := by decide +kernel
theorem dL_draws_143 : decode cL_draws 143 = .ok (.bipush 31, 2) := by decide +kernel
theorem dL_draws_145 : decode cL_draws 145 = .ok (.lshl, 1) := by decide +kernel
theorem dL_draws_146 : decode cL_draws 146 = .ok (.lor, 1) := by decide +kernel
theorem dL_draws_147 : decode cL_draws 147 = .ok (.ldc2_w 17, 3) := by decide +kernel
theorem dL_draws_150 : decode cL_draws 150 = .ok (.land, 1) := by decide +kernel
theorem dL_draws_151 : decode cL_draws 151 = .ok (.lastore, 1) := by decide +kernel
theorem dL_draws_152 : decode cL_draws 152 = .ok (.iinc 4 1, 3) := by decide +kernel
theorem dL_draws_155 : decode cL_draws 155 = .ok (.goto (-139), 3) := by decide +kernel
theorem dL_draws_158 : decode cL_draws 158 = .ok (.aload_n 0, 1) := by decide +kernel
theorem dL_draws_159 : decode cL_draws 159 = .ok (.iload_n 1, 1) := by decide +kernel
theorem dL_draws_160 : decode cL_draws 160 = .ok (.iconst 1, 1) := by decide +kernel
theorem dL_draws_161 : decode cL_draws 161 = .ok (.iadd, 1) := by decide +kernel
theorem dL_draws_162 : decode cL_draws 162 = .ok (.invokestatic 9, 3) := by decide +kernel
theorem dL_draws_165 : decode cL_draws 165 = .ok (.istore 4, 2) := by decide +kernel
theorem dL_draws_167 : decode cL_draws 167 = .ok (.aload_n 2, 1) := by decide +kernel
theorem dL_draws_168 : decode cL_draws 168 = .ok (.bipush 17, 2) := by decide +kernel
theorem dL_draws_170 : decode cL_draws 170 = .ok (.iload 4, 2) := by decide +kernel
theorem dL_draws_172 : decode cL_draws 172 = .ok (.bipush 10, 2) := by decide +kernel
theorem dL_draws_174 : decode cL_draws 174 = .ok (.irem, 1) := by decide +kernel
theorem dL_draws_175 : decode cL_draws 175 = .ok (.iastore, 1) := by decide +kernel
theorem dL_draws_176 : decode cL_draws 176 = .ok (.aload_n 2, 1) := by decide +kernel
theorem dL_draws_177 : decode cL_draws 177 = .ok (.bipush 18, 2) := by decide +kernel
theorem dL_draws_179 : decode cL_draws 179 = .ok (.iload 4, 2) := by decide +kernel
theorem dL_draws_181 : decode cL_draws 181 = .ok (.iconst 5, 1) := by decide +kernel
theorem dL_draws_182 : decode cL_draws 182 = .ok (.ishr, 1) := by decide +kernel
theorem dL_draws_183 : decode cL_draws 183 = .ok (.bipush 10, 2) := by decide +kernel
theorem dL_draws_185 : decode cL_draws 185 = .ok (.irem, 1) := by decide +kernel
theorem dL_draws_186 : decode cL_draws 186 = .ok (.iastore, 1) := by decide +kernel
theorem dL_draws_187 : decode cL_draws 187 = .ok (.aload_n 2, 1) := by decide +kernel
theorem dL_draws_188 : decode cL_draws 188 = .ok (.bipush 19, 2) := by decide +kernel
theorem dL_draws_190 : decode cL_draws 190 = .ok (.iload 4, 2) := by decide +kernel
theorem dL_draws_192 : decode cL_draws 192 = .ok (.bipush 10, 2) := by decide +kernel
theorem dL_draws_194 : decode cL_draws 194 = .ok (.ishr, 1) := by decide +kernel
theorem dL_draws_195 : decode cL_draws 195 = .ok (.bipush 10, 2) := by decide +kernel
theorem dL_draws_197 : decode cL_draws 197 = .ok (.irem, 1) := by decide +kernel
theorem dL_draws_198 : decode cL_draws 198 = .ok (.iastore, 1) := by decide +kernel
theorem dL_draws_199 : decode cL_draws 199 = .ok (.return_, 1) := by decide +kernel
theorem dL_sign_0 : decode cL_sign 0 = .ok (.aload_n 0, 1) := by decide +kernel
theorem dL_sign_1 : decode cL_sign 1 = .ok (.iload_n 1, 1) := by decide +kernel
theorem dL_sign_2 : decode cL_sign 2 = .ok (.laload, 1) := by decide +kernel
theorem dL_sign_3 : decode cL_sign 3 = .ok (.iconst 3, 1) := by decide +kernel
theorem dL_sign_4 : decode cL_sign 4 = .ok (.iload_n 2, 1) := by decide +kernel
theorem dL_sign_5 : decode cL_sign 5 = .ok (.imul, 1) := by decide +kernel
theorem dL_sign_6 : decode cL_sign 6 = .ok (.lshr, 1) := by decide +kernel
theorem dL_sign_7 : decode cL_sign 7 = .ok (.l2i, 1) := by decide +kernel
theorem dL_sign_8 : decode cL_sign 8 = .ok (.bipush 7, 2) := by decide +kernel
theorem dL_sign_10 : decode cL_sign 10 = .ok (.iand, 1) := by decide +kernel
theorem dL_sign_11 : decode cL_sign 11 = .ok (.istore_n 3, 1) := by decide +kernel
theorem dL_sign_12 : decode cL_sign 12 = .ok (.iload_n 3, 1) := by decide +kernel
theorem dL_sign_13 : decode cL_sign 13 = .ok (.iconst 3, 1) := by decide +kernel
theorem dL_sign_14 : decode cL_sign 14 = .ok (.if_icmp .ge 10, 3) := by decide +kernel
theorem dL_sign_17 : decode cL_sign 17 = .ok (.bipush 97, 2) := by decide +kernel
theorem dL_sign_19 : decode cL_sign 19 = .ok (.iload_n 3, 1) := by decide +kernel
theorem dL_sign_20 : decode cL_sign 20 = .ok (.iadd, 1) := by decide +kernel
theorem dL_sign_21 : decode cL_sign 21 = .ok (.goto 29, 3) := by decide +kernel
theorem dL_sign_24 : decode cL_sign 24 = .ok (.iload_n 3, 1) := by decide +kernel
theorem dL_sign_25 : decode cL_sign 25 = .ok (.bipush 6, 2) := by decide +kernel
theorem dL_sign_27 : decode cL_sign 27 = .ok (.if_icmp .ge 10, 3) := by decide +kernel
theorem dL_sign_30 : decode cL_sign 30 = .ok (.bipush 62, 2) := by decide +kernel
theorem dL_sign_32 : decode cL_sign 32 = .ok (.iload_n 3, 1) := by decide +kernel
theorem dL_sign_33 : decode cL_sign 33 = .ok (.iadd, 1) := by decide +kernel
theorem dL_sign_34 : decode cL_sign 34 = .ok (.goto 16, 3) := by decide +kernel
theorem dL_sign_37 : decode cL_sign 37 = .ok (.iload_n 3, 1) := by decide +kernel
theorem dL_sign_38 : decode cL_sign 38 = .ok (.bipush 6, 2) := by decide +kernel
theorem dL_sign_40 : decode cL_sign 40 = .ok (.if_icmp .ne 8, 3) := by decide +kernel
theorem dL_sign_43 : decode cL_sign 43 = .ok (.bipush 95, 2) := by decide +kernel
theorem dL_sign_45 : decode cL_sign 45 = .ok (.goto 5, 3) := by decide +kernel
theorem dL_sign_48 : decode cL_sign 48 = .ok (.bipush 122, 2) := by decide +kernel
theorem dL_sign_50 : decode cL_sign 50 = .ok (.ireturn, 1) := by decide +kernel
theorem dL_letter_0 : decode cL_letter 0 = .ok (.iload_n 0, 1) := by decide +kernel
theorem dL_letter_1 : decode cL_letter 1 = .ok (.iconst 3, 1) := by decide +kernel
theorem dL_letter_2 : decode cL_letter 2 = .ok (.if_icmp .ge 10, 3) := by decide +kernel
theorem dL_letter_5 : decode cL_letter 5 = .ok (.bipush 97, 2) := by decide +kernel
theorem dL_letter_7 : decode cL_letter 7 = .ok (.iload_n 0, 1) := by decide +kernel
theorem dL_letter_8 : decode cL_letter 8 = .ok (.iadd, 1) := by decide +kernel
theorem dL_letter_9 : decode cL_letter 9 = .ok (.goto 29, 3) := by decide +kernel
theorem dL_letter_12 : decode cL_letter 12 = .ok (.iload_n 0, 1) := by decide +kernel
theorem dL_letter_13 : decode cL_letter 13 = .ok (.bipush 6, 2) := by decide +kernel
theorem dL_letter_15 : decode cL_letter 15 = .ok (.if_icmp .ge 10, 3) := by decide +kernel
theorem dL_letter_18 : decode cL_letter 18 = .ok (.bipush 62, 2) := by decide +kernel
theorem dL_letter_20 : decode cL_letter 20 = .ok (.iload_n 0, 1) := by decide +kernel
theorem dL_letter_21 : decode cL_letter 21 = .ok (.iadd, 1) := by decide +kernel
theorem dL_letter_22 : decode cL_letter 22 = .ok (.goto 16, 3) := by decide +kernel
theorem dL_letter_25 : decode cL_letter 25 = .ok (.iload_n 0, 1) := by decide +kernel
theorem dL_letter_26 : decode cL_letter 26 = .ok (.bipush 6, 2) := by decide +kernel
theorem dL_letter_28 : decode cL_letter 28 = .ok (.if_icmp .ne 8, 3) := by decide +kernel
theorem dL_letter_31 : decode cL_letter 31 = .ok (.bipush 100, 2) := by decide +kernel
theorem dL_letter_33 : decode cL_letter 33 = .ok (.goto 5, 3) := by decide +kernel
theorem dL_letter_36 : decode cL_letter 36 = .ok (.bipush 122, 2) := by decide +kernel
theorem dL_letter_38 : decode cL_letter 38 = .ok (.ireturn, 1) := by decide +kernel
theorem dL_writes_0 : decode cL_writes 0 = .ok (.aload_n 0, 1) := by decide +kernel
theorem dL_writes_1 : decode cL_writes 1 = .ok (.iload_n 1, 1) := by decide +kernel
theorem dL_writes_2 : decode cL_writes 2 = .ok (.invokevirtual 19, 3) := by decide +kernel
theorem dL_writes_5 : decode cL_writes 5 = .ok (.ifCond .le 7, 3) := by decide +kernel
theorem dL_writes_8 : decode cL_writes 8 = .ok (.iconst 1, 1) := by decide +kernel
theorem dL_writes_9 : decode cL_writes 9 = .ok (.goto 4, 3) := by decide +kernel
theorem dL_writes_12 : decode cL_writes 12 = .ok (.iconst 0, 1) := by decide +kernel
theorem dL_writes_13 : decode cL_writes 13 = .ok (.ireturn, 1) := by decide +kernel
theorem dL_lays_0 : decode cL_lays 0 = .ok (.aload_n 0, 1) := by decide +kernel
theorem dL_lays_1 : decode cL_lays 1 = .ok (.invokevirtual 25, 3) := by decide +kernel
theorem dL_lays_4 : decode cL_lays 4 = .ok (.ifCond .lt 7, 3) := by decide +kernel
theorem dL_lays_7 : decode cL_lays 7 = .ok (.iconst 1, 1) := by decide +kernel
theorem dL_lays_8 : decode cL_lays 8 = .ok (.goto 4, 3) := by decide +kernel
theorem dL_lays_11 : decode cL_lays 11 = .ok (.iconst 0, 1) := by decide +kernel
theorem dL_lays_12 : decode cL_lays 12 = .ok (.istore_n 3, 1) := by decide +kernel
theorem dL_lays_13 : decode cL_lays 13 = .ok (.iconst 0, 1) := by decide +kernel
theorem dL_lays_14 : decode cL_lays 14 = .ok (.istore 4, 2) := by decide +kernel
theorem dL_lays_16 : decode cL_lays 16 = .ok (.iload 4, 2) := by decide +kernel
theorem dL_lays_18 : decode cL_lays 18 = .ok (.aload_n 1, 1) := by decide +kernel
theorem dL_lays_19 : decode cL_lays 19 = .ok (.iconst 0, 1) := by decide +kernel
theorem dL_lays_20 : decode cL_lays 20 = .ok (.iaload, 1) := by decide +kernel
theorem dL_lays_21 : decode cL_lays 21 = .ok (.if_icmp .ge 110, 3) := by decide +kernel
theorem dL_lays_24 : decode cL_lays 24 = .ok (.iload_n 3, 1) := by decide +kernel
theorem dL_lays_25 : decode cL_lays 25 = .ok (.ifCond .eq 106, 3) := by decide +kernel
theorem dL_lays_28 : decode cL_lays 28 = .ok (.aload_n 0, 1) := by decide +kernel
theorem dL_lays_29 : decode cL_lays 29 = .ok (.bipush 115, 2) := by decide +kernel
theorem dL_lays_31 : decode cL_lays 31 = .ok (.invokestatic 29, 3) := by decide +kernel
theorem dL_lays_34 : decode cL_lays 34 = .ok (.ifCond .eq 33, 3) := by decide +kernel
theorem dL_lays_37 : decode cL_lays 37 = .ok (.aload_n 0, 1) := by decide +kernel
theorem dL_lays_38 : decode cL_lays 38 = .ok (.bipush 48, 2) := by decide +kernel
theorem dL_lays_40 : decode cL_lays 40 = .ok (.aload_n 1, 1) := by decide +kernel
theorem dL_lays_41 : decode cL_lays 41 = .ok (.bipush 9, 2) := by decide +kernel
theorem dL_lays_43 : decode cL_lays 43 = .ok (.iload 4, 2) := by decide +kernel
theorem dL_lays_45 : decode cL_lays 45 = .ok (.iadd, 1) := by decide +kernel
theorem dL_lays_46 : decode cL_lays 46 = .ok (.iaload, 1) := by decide +kernel
theorem dL_lays_47 : decode cL_lays 47 = .ok (.iadd, 1) := by decide +kernel
theorem dL_lays_48 : decode cL_lays 48 = .ok (.invokestatic 29, 3) := by decide +kernel
theorem dL_lays_51 : decode cL_lays 51 = .ok (.ifCond .eq 16, 3) := by decide +kernel
theorem dL_lays_54 : decode cL_lays 54 = .ok (.aload_n 0, 1) := by decide +kernel
theorem dL_lays_55 : decode cL_lays 55 = .ok (.bipush 44, 2) := by decide +kernel
theorem dL_lays_57 : decode cL_lays 57 = .ok (.invokestatic 29, 3) := by decide +kernel
theorem dL_lays_60 : decode cL_lays 60 = .ok (.ifCond .eq 7, 3) := by decide +kernel
theorem dL_lays_63 : decode cL_lays 63 = .ok (.iconst 1, 1) := by decide +kernel
theorem dL_lays_64 : decode cL_lays 64 = .ok (.goto 4, 3) := by decide +kernel
theorem dL_lays_67 : decode cL_lays 67 = .ok (.iconst 0, 1) := by decide +kernel
theorem dL_lays_68 : decode cL_lays 68 = .ok (.istore_n 3, 1) := by decide +kernel
theorem dL_lays_69 : decode cL_lays 69 = .ok (.iconst 0, 1) := by decide +kernel
theorem dL_lays_70 : decode cL_lays 70 = .ok (.istore 5, 2) := by decide +kernel
theorem dL_lays_72 : decode cL_lays 72 = .ok (.iload 5, 2) := by decide +kernel
theorem dL_lays_74 : decode cL_lays 74 = .ok (.aload_n 1, 1) := by decide +kernel
theorem dL_lays_75 : decode cL_lays 75 = .ok (.iconst 1, 1) := by decide +kernel
theorem dL_lays_76 : decode cL_lays 76 = .ok (.iload 4, 2) := by decide +kernel
theorem dL_lays_78 : decode cL_lays 78 = .ok (.iadd, 1) := by decide +kernel
theorem dL_lays_79 : decode cL_lays 79 = .ok (.iaload, 1) := by decide +kernel
theorem dL_lays_80 : decode cL_lays 80 = .ok (.if_icmp .ge 26, 3) := by decide +kernel
theorem dL_lays_83 : decode cL_lays 83 = .ok (.iload_n 3, 1) := by decide +kernel
theorem dL_lays_84 : decode cL_lays 84 = .ok (.ifCond .eq 22, 3) := by decide +kernel
theorem dL_lays_87 : decode cL_lays 87 = .ok (.aload_n 0, 1) := by decide +kernel
theorem dL_lays_88 : decode cL_lays 88 = .ok (.aload_n 2, 1) := by decide +kernel
theorem dL_lays_89 : decode cL_lays 89 = .ok (.iload 4, 2) := by decide +kernel
theorem dL_lays_91 : decode cL_lays 91 = .ok (.iload 5, 2) := by decide +kernel
theorem dL_lays_93 : decode cL_lays 93 = .ok (.invokestatic 33, 3) := by decide +kernel
theorem dL_lays_96 : decode cL_lays 96 = .ok (.invokestatic 29, 3) := by decide +kernel
theorem dL_lays_99 : decode cL_lays 99 = .ok (.istore_n 3, 1) := by decide +kernel
theorem dL_lays_100 : decode cL_lays 100 = .ok (.iinc 5 1, 3) := by decide +kernel
theorem dL_lays_103 : decode cL_lays 103 = .ok (.goto (-31), 3) := by decide +kernel
theorem dL_lays_106 : decode cL_lays 106 = .ok (.iload_n 3, 1) := by decide +kernel
theorem dL_lays_107 : decode cL_lays 107 = .ok (.ifCond .eq 16, 3) := by decide +kernel
theorem dL_lays_110 : decode cL_lays 110 = .ok (.aload_n 0, 1) := by decide +kernel
theorem dL_lays_111 : decode cL_lays 111 = .ok (.bipush 59, 2) := by decide +kernel
theorem dL_lays_113 : decode cL_lays 113 = .ok (.invokestatic 29, 3) := by decide +kernel
theorem dL_lays_116 : decode cL_lays 116 = .ok (.ifCond .eq 7, 3) := by decide +kernel
theorem dL_lays_119 : decode cL_lays 119 = .ok (.iconst 1, 1) := by decide +kernel
theorem dL_lays_120 : decode cL_lays 120 = .ok (.goto 4, 3) := by decide +kernel
theorem dL_lays_123 : decode cL_lays 123 = .ok (.iconst 0, 1) := by decide +kernel
theorem dL_lays_124 : decode cL_lays 124 = .ok (.istore_n 3, 1) := by decide +kernel
theorem dL_lays_125 : decode cL_lays 125 = .ok (.iinc 4 1, 3) := by decide +kernel
theorem dL_lays_128 : decode cL_lays 128 = .ok (.goto (-112), 3) := by decide +kernel
theorem dL_lays_131 : decode cL_lays 131 = .ok (.iload_n 3, 1) := by decide +kernel
theorem dL_lays_132 : decode cL_lays 132 = .ok (.ifCond .eq 104, 3) := by decide +kernel
theorem dL_lays_135 : decode cL_lays 135 = .ok (.aload_n 0, 1) := by decide +kernel
theorem dL_lays_136 : decode cL_lays 136 = .ok (.bipush 119, 2) := by decide +kernel
theorem dL_lays_138 : decode cL_lays 138 = .ok (.invokestatic 29, 3) := by decide +kernel
theorem dL_lays_141 : decode cL_lays 141 = .ok (.ifCond .eq 95, 3) := by decide +kernel
theorem dL_lays_144 : decode cL_lays 144 = .ok (.aload_n 0, 1) := by decide +kernel
theorem dL_lays_145 : decode cL_lays 145 = .ok (.bipush 48, 2) := by decide +kernel
theorem dL_lays_147 : decode cL_lays 147 = .ok (.aload_n 1, 1) := by decide +kernel
theorem dL_lays_148 : decode cL_lays 148 = .ok (.bipush 17, 2) := by decide +kernel
theorem dL_lays_150 : decode cL_lays 150 = .ok (.iaload, 1) := by decide +kernel
theorem dL_lays_151 : decode cL_lays 151 = .ok (.iadd, 1) := by decide +kernel
theorem dL_lays_152 : decode cL_lays 152 = .ok (.invokestatic 29, 3) := by decide +kernel
theorem dL_lays_155 : decode cL_lays 155 = .ok (.ifCond .eq 81, 3) := by decide +kernel
theorem dL_lays_158 : decode cL_lays 158 = .ok (.aload_n 0, 1) := by decide +kernel
theorem dL_lays_159 : decode cL_lays 159 = .ok (.bipush 44, 2) := by decide +kernel
theorem dL_lays_161 : decode cL_lays 161 = .ok (.invokestatic 29, 3) := by decide +kernel
theorem dL_lays_164 : decode cL_lays 164 = .ok (.ifCond .eq 72, 3) := by decide +kernel
theorem dL_lays_167 : decode cL_lays 167 = .ok (.aload_n 0, 1) := by decide +kernel
theorem dL_lays_168 : decode cL_lays 168 = .ok (.bipush 48, 2) := by decide +kernel
theorem dL_lays_170 : decode cL_lays 170 = .ok (.aload_n 1, 1) := by decide +kernel
theorem dL_lays_171 : decode cL_lays 171 = .ok (.bipush 18, 2) := by decide +kernel
theorem dL_lays_173 : decode cL_lays 173 = .ok (.iaload, 1) := by decide +kernel
theorem dL_lays_174 : decode cL_lays 174 = .ok (.iadd, 1) := by decide +kernel
theorem dL_lays_175 : decode cL_lays 175 = .ok (.invokestatic 29, 3) := by decide +kernel
theorem dL_lays_178 : decode cL_lays 178 = .ok (.ifCond .eq 58, 3) := by decide +kernel
theorem dL_lays_181 : decode cL_lays 181 = .ok (.aload_n 0, 1) := by decide +kernel
theorem dL_lays_182 : decode cL_lays 182 = .ok (.bipush 44, 2) := by decide +kernel
theorem dL_lays_184 : decode cL_lays 184 = .ok (.invokestatic 29, 3) := by decide +kernel
theorem dL_lays_187 : decode cL_lays 187 = .ok (.ifCond .eq 49, 3) := by decide +kernel
theorem dL_lays_190 : decode cL_lays 190 = .ok (.aload_n 0, 1) := by decide +kernel
theorem dL_lays_191 : decode cL_lays 191 = .ok (.bipush 48, 2) := by decide +kernel
theorem dL_lays_193 : decode cL_lays 193 = .ok (.aload_n 1, 1) := by decide +kernel
theorem dL_lays_194 : decode cL_lays 194 = .ok (.bipush 19, 2) := by decide +kernel
theorem dL_lays_196 : decode cL_lays 196 = .ok (.iaload, 1) := by decide +kernel
theorem dL_lays_197 : decode cL_lays 197 = .ok (.iadd, 1) := by decide +kernel
theorem dL_lays_198 : decode cL_lays 198 = .ok (.invokestatic 29, 3) := by decide +kernel
theorem dL_lays_201 : decode cL_lays 201 = .ok (.ifCond .eq 35, 3) := by decide +kernel
theorem dL_lays_204 : decode cL_lays 204 = .ok (.aload_n 0, 1) := by decide +kernel
theorem dL_lays_205 : decode cL_lays 205 = .ok (.bipush 59, 2) := by decide +kernel
theorem dL_lays_207 : decode cL_lays 207 = .ok (.invokestatic 29, 3) := by decide +kernel
theorem dL_lays_210 : decode cL_lays 210 = .ok (.ifCond .eq 26, 3) := by decide +kernel
theorem dL_lays_213 : decode cL_lays 213 = .ok (.aload_n 0, 1) := by decide +kernel
theorem dL_lays_214 : decode cL_lays 214 = .ok (.invokevirtual 37, 3) := by decide +kernel
theorem dL_lays_217 : decode cL_lays 217 = .ok (.bipush (-4), 2) := by decide +kernel
theorem dL_lays_219 : decode cL_lays 219 = .ok (.if_icmp .ne 17, 3) := by decide +kernel
theorem dL_lays_222 : decode cL_lays 222 = .ok (.aload_n 0, 1) := by decide +kernel
theorem dL_lays_223 : decode cL_lays 223 = .ok (.invokevirtual 40, 3) := by decide +kernel
theorem dL_lays_226 : decode cL_lays 226 = .ok (.aload_n 1, 1) := by decide +kernel
theorem dL_lays_227 : decode cL_lays 227 = .ok (.iconst 0, 1) := by decide +kernel
theorem dL_lays_228 : decode cL_lays 228 = .ok (.iaload, 1) := by decide +kernel
theorem dL_lays_229 : decode cL_lays 229 = .ok (.if_icmp .ne 7, 3) := by decide +kernel
theorem dL_lays_232 : decode cL_lays 232 = .ok (.iconst 1, 1) := by decide +kernel
theorem dL_lays_233 : decode cL_lays 233 = .ok (.goto 4, 3) := by decide +kernel
theorem dL_lays_236 : decode cL_lays 236 = .ok (.iconst 0, 1) := by decide +kernel
theorem dL_lays_237 : decode cL_lays 237 = .ok (.ireturn, 1) := by decide +kernel
theorem dL_low_0 : decode cL_low 0 = .ok (.iload_n 0, 1) := by decide +kernel
theorem dL_low_1 : decode cL_low 1 = .ok (.bipush 65, 2) := by decide +kernel
theorem dL_low_3 : decode cL_low 3 = .ok (.if_icmp .lt 16, 3) := by decide +kernel
theorem dL_low_6 : decode cL_low 6 = .ok (.iload_n 0, 1) := by decide +kernel
theorem dL_low_7 : decode cL_low 7 = .ok (.bipush 90, 2) := by decide +kernel
theorem dL_low_9 : decode cL_low 9 = .ok (.if_icmp .gt 10, 3) := by decide +kernel
theorem dL_low_12 : decode cL_low 12 = .ok (.iload_n 0, 1) := by decide +kernel
theorem dL_low_13 : decode cL_low 13 = .ok (.bipush 32, 2) := by decide +kernel
theorem dL_low_15 : decode cL_low 15 = .ok (.iadd, 1) := by decide +kernel
theorem dL_low_16 : decode cL_low 16 = .ok (.goto 4, 3) := by decide +kernel
theorem dL_low_19 : decode cL_low 19 = .ok (.iload_n 0, 1) := by decide +kernel
theorem dL_low_20 : decode cL_low 20 = .ok (.ireturn, 1) := by decide +kernel
theorem dL_types_0 : decode cL_types 0 = .ok (.iconst 1, 1) := by decide +kernel
theorem dL_types_1 : decode cL_types 1 = .ok (.istore 4, 2) := by decide +kernel
theorem dL_types_3 : decode cL_types 3 = .ok (.iconst 0, 1) := by decide +kernel
theorem dL_types_4 : decode cL_types 4 = .ok (.istore 5, 2) := by decide +kernel
theorem dL_types_6 : decode cL_types 6 = .ok (.iload 5, 2) := by decide +kernel
theorem dL_types_8 : decode cL_types 8 = .ok (.bipush 7, 2) := by decide +kernel
theorem dL_types_10 : decode cL_types 10 = .ok (.if_icmp .ge 51, 3) := by decide +kernel
theorem dL_types_13 : decode cL_types 13 = .ok (.aload_n 0, 1) := by decide +kernel
theorem dL_types_14 : decode cL_types 14 = .ok (.iconst (-1), 1) := by decide +kernel
theorem dL_types_15 : decode cL_types 15 = .ok (.invokevirtual 43, 3) := by decide +kernel
theorem dL_types_18 : decode cL_types 18 = .ok (.ifCond .le 43, 3) := by decide +kernel
theorem dL_types_21 : decode cL_types 21 = .ok (.iload 4, 2) := by decide +kernel
theorem dL_types_23 : decode cL_types 23 = .ok (.ifCond .eq 38, 3) := by decide +kernel
theorem dL_types_26 : decode cL_types 26 = .ok (.aload_n 0, 1) := by decide +kernel
theorem dL_types_27 : decode cL_types 27 = .ok (.aload_n 0, 1) := by decide +kernel
theorem dL_types_28 : decode cL_types 28 = .ok (.iconst (-1), 1) := by decide +kernel
theorem dL_types_29 : decode cL_types 29 = .ok (.invokevirtual 43, 3) := by decide +kernel
theorem dL_types_32 : decode cL_types 32 = .ok (.iconst 1, 1) := by decide +kernel
theorem dL_types_33 : decode cL_types 33 = .ok (.isub, 1) := by decide +kernel
theorem dL_types_34 : decode cL_types 34 = .ok (.invokevirtual 43, 3) := by decide +kernel
theorem dL_types_37 : decode cL_types 37 = .ok (.istore 6, 2) := by decide +kernel
theorem dL_types_39 : decode cL_types 39 = .ok (.aload_n 0, 1) := by decide +kernel
theorem dL_types_40 : decode cL_types 40 = .ok (.invokevirtual 46, 3) := by decide +kernel
theorem dL_types_43 : decode cL_types 43 = .ok (.iload 6, 2) := by decide +kernel
theorem dL_types_45 : decode cL_types 45 = .ok (.if_icmp .ne 7, 3) := by decide +kernel
theorem dL_types_48 : decode cL_types 48 = .ok (.iconst 1, 1) := by decide +kernel
theorem dL_types_49 : decode cL_types 49 = .ok (.goto 4, 3) := by decide +kernel
theorem dL_types_52 : decode cL_types 52 = .ok (.iconst 0, 1) := by decide +kernel
theorem dL_types_53 : decode cL_types 53 = .ok (.istore 4, 2) := by decide +kernel
theorem dL_types_55 : decode cL_types 55 = .ok (.iinc 5 1, 3) := by decide +kernel
theorem dL_types_58 : decode cL_types 58 = .ok (.goto (-52), 3) := by decide +kernel
theorem dL_types_61 : decode cL_types 61 = .ok (.iload 4, 2) := by decide +kernel
theorem dL_types_63 : decode cL_types 63 = .ok (.ifCond .eq 24, 3) := by decide +kernel
theorem dL_types_66 : decode cL_types 66 = .ok (.aload_n 0, 1) := by decide +kernel
theorem dL_types_67 : decode cL_types 67 = .ok (.iconst (-1), 1) := by decide +kernel
theorem dL_types_68 : decode cL_types 68 = .ok (.invokevirtual 43, 3) := by decide +kernel
theorem dL_types_71 : decode cL_types 71 = .ok (.ifCond .ne 16, 3) := by decide +kernel
theorem dL_types_74 : decode cL_types 74 = .ok (.aload_n 0, 1) := by decide +kernel
theorem dL_types_75 : decode cL_types 75 = .ok (.invokevirtual 46, 3) := by decide +kernel
theorem dL_types_78 : decode cL_types 78 = .ok (.bipush (-2), 2) := by decide +kernel
theorem dL_types_80 : decode cL_types 80 = .ok (.if_icmp .ne 7, 3) := by decide +kernel
theorem dL_types_83 : decode cL_types 83 = .ok (.iconst 1, 1) := by decide +kernel
theorem dL_types_84 : decode cL_types 84 = .ok (.goto 4, 3) := by decide +kernel
theorem dL_types_87 : decode cL_types 87 = .ok (.iconst 0, 1) := by decide +kernel
theorem dL_types_88 : decode cL_types 88 = .ok (.istore 4, 2) := by decide +kernel
theorem dL_types_90 : decode cL_types 90 = .ok (.aload_n 1, 1) := by decide +kernel
theorem dL_types_91 : decode cL_types 91 = .ok (.iconst 0, 1) := by decide +kernel
theorem dL_types_92 : decode cL_types 92 = .ok (.iload_n 2, 1) := by decide +kernel
theorem dL_types_93 : decode cL_types 93 = .ok (.iastore, 1) := by decide +kernel
theorem dL_types_94 : decode cL_types 94 = .ok (.iconst 0, 1) := by decide +kernel
theorem dL_types_95 : decode cL_types 95 = .ok (.istore 5, 2) := by decide +kernel
theorem dL_types_97 : decode cL_types 97 = .ok (.iload 5, 2) := by decide +kernel
theorem dL_types_99 : decode cL_types 99 = .ok (.iload_n 2, 1) := by decide +kernel
theorem dL_types_100 : decode cL_types 100 = .ok (.if_icmp .ge 71, 3) := by decide +kernel
theorem dL_types_103 : decode cL_types 103 = .ok (.iload 4, 2) := by decide +kernel
theorem dL_types_105 : decode cL_types 105 = .ok (.ifCond .eq 66, 3) := by decide +kernel
theorem dL_types_108 : decode cL_types 108 = .ok (.aload_n 1, 1) := by decide +kernel
theorem dL_types_109 : decode cL_types 109 = .ok (.iconst 1, 1) := by decide +kernel
theorem dL_types_110 : decode cL_types 110 = .ok (.iload 5, 2) := by decide +kernel
theorem dL_types_112 : decode cL_types 112 = .ok (.iadd, 1) := by decide +kernel
theorem dL_types_113 : decode cL_types 113 = .ok (.iload_n 3, 1) := by decide +kernel
theorem dL_types_114 : decode cL_types 114 = .ok (.iconst 3, 1) := by decide +kernel
theorem dL_types_115 : decode cL_types 115 = .ok (.iload 5, 2) := by decide +kernel
theorem dL_types_117 : decode cL_types 117 = .ok (.imul, 1) := by decide +kernel
theorem dL_types_118 : decode cL_types 118 = .ok (.ishr, 1) := by decide +kernel
theorem dL_types_119 : decode cL_types 119 = .ok (.bipush 7, 2) := by decide +kernel
theorem dL_types_121 : decode cL_types 121 = .ok (.iand, 1) := by decide +kernel
theorem dL_types_122 : decode cL_types 122 = .ok (.invokestatic 49, 3) := by decide +kernel
theorem dL_types_125 : decode cL_types 125 = .ok (.iastore, 1) := by decide +kernel
theorem dL_types_126 : decode cL_types 126 = .ok (.aload_n 0, 1) := by decide +kernel
theorem dL_types_127 : decode cL_types 127 = .ok (.aload_n 1, 1) := by decide +kernel
theorem dL_types_128 : decode cL_types 128 = .ok (.iconst 1, 1) := by decide +kernel
theorem dL_types_129 : decode cL_types 129 = .ok (.iload 5, 2) := by decide +kernel
theorem dL_types_131 : decode cL_types 131 = .ok (.iadd, 1) := by decide +kernel
theorem dL_types_132 : decode cL_types 132 = .ok (.iaload, 1) := by decide +kernel
theorem dL_types_133 : decode cL_types 133 = .ok (.invokevirtual 52, 3) := by decide +kernel
theorem dL_types_136 : decode cL_types 136 = .ok (.iload 5, 2) := by decide +kernel
theorem dL_types_138 : decode cL_types 138 = .ok (.iconst 1, 1) := by decide +kernel
theorem dL_types_139 : decode cL_types 139 = .ok (.iadd, 1) := by decide +kernel
theorem dL_types_140 : decode cL_types 140 = .ok (.if_icmp .ne 22, 3) := by decide +kernel
theorem dL_types_143 : decode cL_types 143 = .ok (.aload_n 0, 1) := by decide +kernel
theorem dL_types_144 : decode cL_types 144 = .ok (.iload 5, 2) := by decide +kernel
theorem dL_types_146 : decode cL_types 146 = .ok (.invokevirtual 43, 3) := by decide +kernel
theorem dL_types_149 : decode cL_types 149 = .ok (.aload_n 1, 1) := by decide +kernel
theorem dL_types_150 : decode cL_types 150 = .ok (.iconst 1, 1) := by decide +kernel
theorem dL_types_151 : decode cL_types 151 = .ok (.iload 5, 2) := by decide +kernel
theorem dL_types_153 : decode cL_types 153 = .ok (.iadd, 1) := by decide +kernel
theorem dL_types_154 : decode cL_types 154 = .ok (.iaload, 1) := by decide +kernel
theorem dL_types_155 : decode cL_types 155 = .ok (.if_icmp .ne 7, 3) := by decide +kernel
theorem dL_types_158 : decode cL_types 158 = .ok (.iconst 1, 1) := by decide +kernel
theorem dL_types_159 : decode cL_types 159 = .ok (.goto 4, 3) := by decide +kernel
theorem dL_types_162 : decode cL_types 162 = .ok (.iconst 0, 1) := by decide +kernel
theorem dL_types_163 : decode cL_types 163 = .ok (.istore 4, 2) := by decide +kernel
theorem dL_types_165 : decode cL_types 165 = .ok (.iinc 5 1, 3) := by decide +kernel
theorem dL_types_168 : decode cL_types 168 = .ok (.goto (-71), 3) := by decide +kernel
theorem dL_types_171 : decode cL_types 171 = .ok (.iload 4, 2) := by decide +kernel
theorem dL_types_173 : decode cL_types 173 = .ok (.ifCond .eq 34, 3) := by decide +kernel
theorem dL_types_176 : decode cL_types 176 = .ok (.aload_n 0, 1) := by decide +kernel
theorem dL_types_177 : decode cL_types 177 = .ok (.iload_n 2, 1) := by decide +kernel
theorem dL_types_178 : decode cL_types 178 = .ok (.invokevirtual 43, 3) := by decide +kernel
theorem dL_types_181 : decode cL_types 181 = .ok (.bipush (-4), 2) := by decide +kernel
theorem dL_types_183 : decode cL_types 183 = .ok (.if_icmp .ne 24, 3) := by decide +kernel
theorem dL_types_186 : decode cL_types 186 = .ok (.iload_n 2, 1) := by decide +kernel
theorem dL_types_187 : decode cL_types 187 = .ok (.bipush 6, 2) := by decide +kernel
theorem dL_types_189 : decode cL_types 189 = .ok (.if_icmp .lt 14, 3) := by decide +kernel
theorem dL_types_192 : decode cL_types 192 = .ok (.aload_n 0, 1) := by decide +kernel
theorem dL_types_193 : decode cL_types 193 = .ok (.bipush 97, 2) := by decide +kernel
theorem dL_types_195 : decode cL_types 195 = .ok (.invokevirtual 52, 3) := by decide +kernel
theorem dL_types_198 : decode cL_types 198 = .ok (.bipush (-3), 2) := by decide +kernel
theorem dL_types_200 : decode cL_types 200 = .ok (.if_icmp .ne 7, 3) := by decide +kernel
theorem dL_types_203 : decode cL_types 203 = .ok (.iconst 1, 1) := by decide +kernel
theorem dL_types_204 : decode cL_types 204 = .ok (.goto 4, 3) := by decide +kernel
theorem dL_types_207 : decode cL_types 207 = .ok (.iconst 0, 1) := by decide +kernel
theorem dL_types_208 : decode cL_types 208 = .ok (.ireturn, 1) := by decide +kernel
theorem dL_alike_0 : decode cL_alike 0 = .ok (.aload_n 1, 1) := by decide +kernel
theorem dL_alike_1 : decode cL_alike 1 = .ok (.iload_n 2, 1) := by decide +kernel
theorem dL_alike_2 : decode cL_alike 2 = .ok (.iload_n 3, 1) := by decide +kernel
theorem dL_alike_3 : decode cL_alike 3 = .ok (.invokestatic 33, 3) := by decide +kernel
theorem dL_alike_6 : decode cL_alike 6 = .ok (.istore 5, 2) := by decide +kernel
theorem dL_alike_8 : decode cL_alike 8 = .ok (.aload_n 0, 1) := by decide +kernel
theorem dL_alike_9 : decode cL_alike 9 = .ok (.bipush 9, 2) := by decide +kernel
theorem dL_alike_11 : decode cL_alike 11 = .ok (.iload_n 2, 1) := by decide +kernel
theorem dL_alike_12 : decode cL_alike 12 = .ok (.iadd, 1) := by decide +kernel
theorem dL_alike_13 : decode cL_alike 13 = .ok (.iaload, 1) := by decide +kernel
theorem dL_alike_14 : decode cL_alike 14 = .ok (.iconst 1, 1) := by decide +kernel
theorem dL_alike_15 : decode cL_alike 15 = .ok (.if_icmp .ne 18, 3) := by decide +kernel
theorem dL_alike_18 : decode cL_alike 18 = .ok (.iload 5, 2) := by decide +kernel
theorem dL_alike_20 : decode cL_alike 20 = .ok (.iload 4, 2) := by decide +kernel
theorem dL_alike_22 : decode cL_alike 22 = .ok (.if_icmp .ne 7, 3) := by decide +kernel
theorem dL_alike_25 : decode cL_alike 25 = .ok (.iconst 1, 1) := by decide +kernel
theorem dL_alike_26 : decode cL_alike 26 = .ok (.goto 25, 3) := by decide +kernel
theorem dL_alike_29 : decode cL_alike 29 = .ok (.iconst 0, 1) := by decide +kernel
theorem dL_alike_30 : decode cL_alike 30 = .ok (.goto 21, 3) := by decide +kernel
theorem dL_alike_33 : decode cL_alike 33 = .ok (.iload 5, 2) := by decide +kernel
theorem dL_alike_35 : decode cL_alike 35 = .ok (.invokestatic 55, 3) := by decide +kernel
theorem dL_alike_38 : decode cL_alike 38 = .ok (.iload 4, 2) := by decide +kernel
theorem dL_alike_40 : decode cL_alike 40 = .ok (.invokestatic 55, 3) := by decide +kernel
theorem dL_alike_43 : decode cL_alike 43 = .ok (.if_icmp .ne 7, 3) := by decide +kernel
theorem dL_alike_46 : decode cL_alike 46 = .ok (.iconst 1, 1) := by decide +kernel
theorem dL_alike_47 : decode cL_alike 47 = .ok (.goto 4, 3) := by decide +kernel
theorem dL_alike_50 : decode cL_alike 50 = .ok (.iconst 0, 1) := by decide +kernel
theorem dL_alike_51 : decode cL_alike 51 = .ok (.ireturn, 1) := by decide +kernel
theorem dL_isBeginning_0 : decode cL_isBeginning 0 = .ok (.aload_n 0, 1) := by decide +kernel
theorem dL_isBeginning_1 : decode cL_isBeginning 1 = .ok (.iload_n 1, 1) := by decide +kernel
theorem dL_isBeginning_2 : decode cL_isBeginning 2 = .ok (.iload_n 2, 1) := by decide +kernel
theorem dL_isBeginning_3 : decode cL_isBeginning 3 = .ok (.invokestatic 33, 3) := by decide +kernel
theorem dL_isBeginning_6 : decode cL_isBeginning 6 = .ok (.istore_n 3, 1) := by decide +kernel
theorem dL_isBeginning_7 : decode cL_isBeginning 7 = .ok (.iload_n 2, 1) := by decide +kernel
theorem dL_isBeginning_8 : decode cL_isBeginning 8 = .ok (.ifCond .ne 8, 3) := by decide +kernel
theorem dL_isBeginning_11 : decode cL_isBeginning 11 = .ok (.bipush 95, 2) := by decide +kernel
theorem dL_isBeginning_13 : decode cL_isBeginning 13 = .ok (.goto 11, 3) := by decide +kernel
theorem dL_isBeginning_16 : decode cL_isBeginning 16 = .ok (.aload_n 0, 1) := by decide +kernel
theorem dL_isBeginning_17 : decode cL_isBeginning 17 = .ok (.iload_n 1, 1) := by decide +kernel
theorem dL_isBeginning_18 : decode cL_isBeginning 18 = .ok (.iload_n 2, 1) := by decide +kernel
theorem dL_isBeginning_19 : decode cL_isBeginning 19 = .ok (.iconst 1, 1) := by decide +kernel
theorem dL_isBeginning_20 : decode cL_isBeginning 20 = .ok (.isub, 1) := by decide +kernel
theorem dL_isBeginning_21 : decode cL_isBeginning 21 = .ok (.invokestatic 33, 3) := by decide +kernel
theorem dL_isBeginning_24 : decode cL_isBeginning 24 = .ok (.istore 4, 2) := by decide +kernel
theorem dL_isBeginning_26 : decode cL_isBeginning 26 = .ok (.iload_n 3, 1) := by decide +kernel
theorem dL_isBeginning_27 : decode cL_isBeginning 27 = .ok (.bipush 95, 2) := by decide +kernel
theorem dL_isBeginning_29 : decode cL_isBeginning 29 = .ok (.if_icmp .eq 27, 3) := by decide +kernel
theorem dL_isBeginning_32 : decode cL_isBeginning 32 = .ok (.iload 4, 2) := by decide +kernel
theorem dL_isBeginning_34 : decode cL_isBeginning 34 = .ok (.bipush 95, 2) := by decide +kernel
theorem dL_isBeginning_36 : decode cL_isBeginning 36 = .ok (.if_icmp .eq 16, 3) := by decide +kernel
theorem dL_isBeginning_39 : decode cL_isBeginning 39 = .ok (.iload_n 3, 1) := by decide +kernel
theorem dL_isBeginning_40 : decode cL_isBeginning 40 = .ok (.bipush 91, 2) := by decide +kernel
theorem dL_isBeginning_42 : decode cL_isBeginning 42 = .ok (.if_icmp .ge 14, 3) := by decide +kernel
theorem dL_isBeginning_45 : decode cL_isBeginning 45 = .ok (.iload 4, 2) := by decide +kernel
theorem dL_isBeginning_47 : decode cL_isBeginning 47 = .ok (.bipush 96, 2) := by decide +kernel
theorem dL_isBeginning_49 : decode cL_isBeginning 49 = .ok (.if_icmp .le 7, 3) := by decide +kernel
theorem dL_isBeginning_52 : decode cL_isBeginning 52 = .ok (.iconst 1, 1) := by decide +kernel
theorem dL_isBeginning_53 : decode cL_isBeginning 53 = .ok (.goto 4, 3) := by decide +kernel
theorem dL_isBeginning_56 : decode cL_isBeginning 56 = .ok (.iconst 0, 1) := by decide +kernel
theorem dL_isBeginning_57 : decode cL_isBeginning 57 = .ok (.ireturn, 1) := by decide +kernel
theorem dL_worth_0 : decode cL_worth 0 = .ok (.iconst 0, 1) := by decide +kernel
theorem dL_worth_1 : decode cL_worth 1 = .ok (.istore 5, 2) := by decide +kernel
theorem dL_worth_3 : decode cL_worth 3 = .ok (.iconst (-1), 1) := by decide +kernel
theorem dL_worth_4 : decode cL_worth 4 = .ok (.istore 6, 2) := by decide +kernel
theorem dL_worth_6 : decode cL_worth 6 = .ok (.iconst 0, 1) := by decide +kernel
theorem dL_worth_7 : decode cL_worth 7 = .ok (.istore 7, 2) := by decide +kernel
theorem dL_worth_9 : decode cL_worth 9 = .ok (.iload 7, 2) := by decide +kernel
theorem dL_worth_11 : decode cL_worth 11 = .ok (.aload 4, 2) := by decide +kernel
theorem dL_worth_13 : decode cL_worth 13 = .ok (.iconst 0, 1) := by decide +kernel
theorem dL_worth_14 : decode cL_worth 14 = .ok (.iaload, 1) := by decide +kernel
theorem dL_worth_15 : decode cL_worth 15 = .ok (.if_icmp .ge 165, 3) := by decide +kernel
theorem dL_worth_18 : decode cL_worth 18 = .ok (.aload_n 0, 1) := by decide +kernel
theorem dL_worth_19 : decode cL_worth 19 = .ok (.iload_n 3, 1) := by decide +kernel
theorem dL_worth_20 : decode cL_worth 20 = .ok (.iload 7, 2) := by decide +kernel
theorem dL_worth_22 : decode cL_worth 22 = .ok (.invokevirtual 58, 3) := by decide +kernel
theorem dL_worth_25 : decode cL_worth 25 = .ok (.istore 8, 2) := by decide +kernel
theorem dL_worth_27 : decode cL_worth 27 = .ok (.iload 8, 2) := by decide +kernel
theorem dL_worth_29 : decode cL_worth 29 = .ok (.iload 6, 2) := by decide +kernel
theorem dL_worth_31 : decode cL_worth 31 = .ok (.if_icmp .le 31, 3) := by decide +kernel
theorem dL_worth_34 : decode cL_worth 34 = .ok (.iload 8, 2) := by decide +kernel
theorem dL_worth_36 : decode cL_worth 36 = .ok (.aload_n 1, 1) := by decide +kernel
theorem dL_worth_37 : decode cL_worth 37 = .ok (.iconst 1, 1) := by decide +kernel
theorem dL_worth_38 : decode cL_worth 38 = .ok (.iload_n 3, 1) := by decide +kernel
theorem dL_worth_39 : decode cL_worth 39 = .ok (.iadd, 1) := by decide +kernel
theorem dL_worth_40 : decode cL_worth 40 = .ok (.iaload, 1) := by decide +kernel
theorem dL_worth_41 : decode cL_worth 41 = .ok (.if_icmp .ge 21, 3) := by decide +kernel
theorem dL_worth_44 : decode cL_worth 44 = .ok (.aload_n 1, 1) := by decide +kernel
theorem dL_worth_45 : decode cL_worth 45 = .ok (.aload_n 2, 1) := by decide +kernel
theorem dL_worth_46 : decode cL_worth 46 = .ok (.iload_n 3, 1) := by decide +kernel
theorem dL_worth_47 : decode cL_worth 47 = .ok (.iload 8, 2) := by decide +kernel
theorem dL_worth_49 : decode cL_worth 49 = .ok (.aload 4, 2) := by decide +kernel
theorem dL_worth_51 : decode cL_worth 51 = .ok (.iconst 1, 1) := by decide +kernel
theorem dL_worth_52 : decode cL_worth 52 = .ok (.iload 7, 2) := by decide +kernel
theorem dL_worth_54 : decode cL_worth 54 = .ok (.iadd, 1) := by decide +kernel
theorem dL_worth_55 : decode cL_worth 55 = .ok (.iaload, 1) := by decide +kernel
theorem dL_worth_56 : decode cL_worth 56 = .ok (.invokestatic 62, 3) := by decide +kernel
theorem dL_worth_59 : decode cL_worth 59 = .ok (.ifCond .ne 7, 3) := by decide +kernel
theorem dL_worth_62 : decode cL_worth 62 = .ok (.sipush (-2000), 3) := by decide +kernel
theorem dL_worth_65 : decode cL_worth 65 = .ok (.ireturn, 1) := by decide +kernel
theorem dL_worth_66 : decode cL_worth 66 = .ok (.iload 5, 2) := by decide +kernel
theorem dL_worth_68 : decode cL_worth 68 = .ok (.bipush 50, 2) := by decide +kernel
theorem dL_worth_70 : decode cL_worth 70 = .ok (.aload_n 2, 1) := by decide +kernel
theorem dL_worth_71 : decode cL_worth 71 = .ok (.iload_n 3, 1) := by decide +kernel
theorem dL_worth_72 : decode cL_worth 72 = .ok (.iload 8, 2) := by decide +kernel
theorem dL_worth_74 : decode cL_worth 74 = .ok (.invokestatic 66, 3) := by decide +kernel
theorem dL_worth_77 : decode cL_worth 77 = .ok (.ifCond .eq 34, 3) := by decide +kernel
theorem dL_worth_80 : decode cL_worth 80 = .ok (.iload 8, 2) := by decide +kernel
theorem dL_worth_82 : decode cL_worth 82 = .ok (.ifCond .ne 22, 3) := by decide +kernel
theorem dL_worth_85 : decode cL_worth 85 = .ok (.aload_n 1, 1) := by decide +kernel
theorem dL_worth_86 : decode cL_worth 86 = .ok (.bipush 9, 2) := by decide +kernel
theorem dL_worth_88 : decode cL_worth 88 = .ok (.iload_n 3, 1) := by decide +kernel
theorem dL_worth_89 : decode cL_worth 89 = .ok (.iadd, 1) := by decide +kernel
theorem dL_worth_90 : decode cL_worth 90 = .ok (.iaload, 1) := by decide +kernel
theorem dL_worth_91 : decode cL_worth 91 = .ok (.iconst 2, 1) := by decide +kernel
theorem dL_worth_92 : decode cL_worth 92 = .ok (.if_icmp .ne 12, 3) := by decide +kernel
theorem dL_worth_95 : decode cL_worth 95 = .ok (.iconst 2, 1) := by decide +kernel
theorem dL_worth_96 : decode cL_worth 96 = .ok (.aload_n 1, 1) := by decide +kernel
theorem dL_worth_97 : decode cL_worth 97 = .ok (.bipush 17, 2) := by decide +kernel
theorem dL_worth_99 : decode cL_worth 99 = .ok (.iaload, 1) := by decide +kernel
theorem dL_worth_100 : decode cL_worth 100 = .ok (.imul, 1) := by decide +kernel
theorem dL_worth_101 : decode cL_worth 101 = .ok (.goto 11, 3) := by decide +kernel
theorem dL_worth_104 : decode cL_worth 104 = .ok (.aload_n 1, 1) := by decide +kernel
theorem dL_worth_105 : decode cL_worth 105 = .ok (.bipush 17, 2) := by decide +kernel
theorem dL_worth_107 : decode cL_worth 107 = .ok (.iaload, 1) := by decide +kernel
theorem dL_worth_108 : decode cL_worth 108 = .ok (.goto 4, 3) := by decide +kernel
theorem dL_worth_111 : decode cL_worth 111 = .ok (.iconst 0, 1) := by decide +kernel
theorem dL_worth_112 : decode cL_worth 112 = .ok (.iadd, 1) := by decide +kernel
theorem dL_worth_113 : decode cL_worth 113 = .ok (.iadd, 1) := by decide +kernel
theorem dL_worth_114 : decode cL_worth 114 = .ok (.istore 5, 2) := by decide +kernel
theorem dL_worth_116 : decode cL_worth 116 = .ok (.iload 7, 2) := by decide +kernel
theorem dL_worth_118 : decode cL_worth 118 = .ok (.ifCond .le 52, 3) := by decide +kernel
theorem dL_worth_121 : decode cL_worth 121 = .ok (.iload 5, 2) := by decide +kernel
theorem dL_worth_123 : decode cL_worth 123 = .ok (.iload 8, 2) := by decide +kernel
theorem dL_worth_125 : decode cL_worth 125 = .ok (.iload 6, 2) := by decide +kernel
theorem dL_worth_127 : decode cL_worth 127 = .ok (.iconst 1, 1) := by decide +kernel
theorem dL_worth_128 : decode cL_worth 128 = .ok (.iadd, 1) := by decide +kernel
theorem dL_worth_129 : decode cL_worth 129 = .ok (.if_icmp .ne 10, 3) := by decide +kernel
theorem dL_worth_132 : decode cL_worth 132 = .ok (.aload_n 1, 1) := by decide +kernel
theorem dL_worth_133 : decode cL_worth 133 = .ok (.bipush 18, 2) := by decide +kernel
theorem dL_worth_135 : decode cL_worth 135 = .ok (.iaload, 1) := by decide +kernel
theorem dL_worth_136 : decode cL_worth 136 = .ok (.goto 31, 3) := by decide +kernel
theorem dL_worth_139 : decode cL_worth 139 = .ok (.aload_n 1, 1) := by decide +kernel
theorem dL_worth_140 : decode cL_worth 140 = .ok (.bipush 9, 2) := by decide +kernel
theorem dL_worth_142 : decode cL_worth 142 = .ok (.iload_n 3, 1) := by decide +kernel
theorem dL_worth_143 : decode cL_worth 143 = .ok (.iadd, 1) := by decide +kernel
theorem dL_worth_144 : decode cL_worth 144 = .ok (.iaload, 1) := by decide +kernel
theorem dL_worth_145 : decode cL_worth 145 = .ok (.iconst 3, 1) := by decide +kernel
theorem dL_worth_146 : decode cL_worth 146 = .ok (.if_icmp .ne 7, 3) := by decide +kernel
theorem dL_worth_149 : decode cL_worth 149 = .ok (.iconst 0, 1) := by decide +kernel
theorem dL_worth_150 : decode cL_worth 150 = .ok (.goto 17, 3) := by decide +kernel
theorem dL_worth_153 : decode cL_worth 153 = .ok (.iconst 0, 1) := by decide +kernel
theorem dL_worth_154 : decode cL_worth 154 = .ok (.aload_n 1, 1) := by decide +kernel
theorem dL_worth_155 : decode cL_worth 155 = .ok (.bipush 19, 2) := by decide +kernel
theorem dL_worth_157 : decode cL_worth 157 = .ok (.iaload, 1) := by decide +kernel
theorem dL_worth_158 : decode cL_worth 158 = .ok (.iload 8, 2) := by decide +kernel
theorem dL_worth_160 : decode cL_worth 160 = .ok (.iload 6, 2) := by decide +kernel
theorem dL_worth_162 : decode cL_worth 162 = .ok (.isub, 1) := by decide +kernel
theorem dL_worth_163 : decode cL_worth 163 = .ok (.iconst 1, 1) := by decide +kernel
theorem dL_worth_164 : decode cL_worth 164 = .ok (.isub, 1) := by decide +kernel
theorem dL_worth_165 : decode cL_worth 165 = .ok (.imul, 1) := by decide +kernel
theorem dL_worth_166 : decode cL_worth 166 = .ok (.isub, 1) := by decide +kernel
theorem dL_worth_167 : decode cL_worth 167 = .ok (.iadd, 1) := by decide +kernel
theorem dL_worth_168 : decode cL_worth 168 = .ok (.istore 5, 2) := by decide +kernel
theorem dL_worth_170 : decode cL_worth 170 = .ok (.iload 8, 2) := by decide +kernel
theorem dL_worth_172 : decode cL_worth 172 = .ok (.istore 6, 2) := by decide +kernel
theorem dL_worth_174 : decode cL_worth 174 = .ok (.iinc 7 1, 3) := by decide +kernel
theorem dL_worth_177 : decode cL_worth 177 = .ok (.goto (-168), 3) := by decide +kernel
theorem dL_worth_180 : decode cL_worth 180 = .ok (.iload 5, 2) := by decide +kernel
theorem dL_worth_182 : decode cL_worth 182 = .ok (.ireturn, 1) := by decide +kernel
theorem dL_each_0 : decode cL_each 0 = .ok (.aload_n 0, 1) := by decide +kernel
theorem dL_each_1 : decode cL_each 1 = .ok (.iconst 0, 1) := by decide +kernel
theorem dL_each_2 : decode cL_each 2 = .ok (.invokevirtual 70, 3) := by decide +kernel
theorem dL_each_5 : decode cL_each 5 = .ok (.istore 4, 2) := by decide +kernel
theorem dL_each_7 : decode cL_each 7 = .ok (.aload_n 0, 1) := by decide +kernel
theorem dL_each_8 : decode cL_each 8 = .ok (.iconst 1, 1) := by decide +kernel
theorem dL_each_9 : decode cL_each 9 = .ok (.invokevirtual 70, 3) := by decide +kernel
theorem dL_each_12 : decode cL_each 12 = .ok (.istore 5, 2) := by decide +kernel
theorem dL_each_14 : decode cL_each 14 = .ok (.iload 4, 2) := by decide +kernel
theorem dL_each_16 : decode cL_each 16 = .ok (.ifCond .lt 32, 3) := by decide +kernel
theorem dL_each_19 : decode cL_each 19 = .ok (.iload 5, 2) := by decide +kernel
theorem dL_each_21 : decode cL_each 21 = .ok (.ifCond .lt 27, 3) := by decide +kernel
theorem dL_each_24 : decode cL_each 24 = .ok (.iload 5, 2) := by decide +kernel
theorem dL_each_26 : decode cL_each 26 = .ok (.iload 4, 2) := by decide +kernel
theorem dL_each_28 : decode cL_each 28 = .ok (.iconst (-1), 1) := by decide +kernel
theorem dL_each_29 : decode cL_each 29 = .ok (.ixor, 1) := by decide +kernel
theorem dL_each_30 : decode cL_each 30 = .ok (.iand, 1) := by decide +kernel
theorem dL_each_31 : decode cL_each 31 = .ok (.ifCond .ne 17, 3) := by decide +kernel
theorem dL_each_34 : decode cL_each 34 = .ok (.iload 4, 2) := by decide +kernel
theorem dL_each_36 : decode cL_each 36 = .ok (.iconst 1, 1) := by decide +kernel
theorem dL_each_37 : decode cL_each 37 = .ok (.aload_n 1, 1) := by decide +kernel
theorem dL_each_38 : decode cL_each 38 = .ok (.iconst 0, 1) := by decide +kernel
theorem dL_each_39 : decode cL_each 39 = .ok (.iaload, 1) := by decide +kernel
theorem dL_each_40 : decode cL_each 40 = .ok (.ishl, 1) := by decide +kernel
theorem dL_each_41 : decode cL_each 41 = .ok (.if_icmp .ge 7, 3) := by decide +kernel
theorem dL_each_44 : decode cL_each 44 = .ok (.iconst 1, 1) := by decide +kernel
theorem dL_each_45 : decode cL_each 45 = .ok (.goto 4, 3) := by decide +kernel
theorem dL_each_48 : decode cL_each 48 = .ok (.iconst 0, 1) := by decide +kernel
theorem dL_each_49 : decode cL_each 49 = .ok (.istore 6, 2) := by decide +kernel
theorem dL_each_51 : decode cL_each 51 = .ok (.iconst 0, 1) := by decide +kernel
theorem dL_each_52 : decode cL_each 52 = .ok (.istore 7, 2) := by decide +kernel
theorem dL_each_54 : decode cL_each 54 = .ok (.iload 7, 2) := by decide +kernel
theorem dL_each_56 : decode cL_each 56 = .ok (.aload_n 1, 1) := by decide +kernel
theorem dL_each_57 : decode cL_each 57 = .ok (.iconst 0, 1) := by decide +kernel
theorem dL_each_58 : decode cL_each 58 = .ok (.iaload, 1) := by decide +kernel
theorem dL_each_59 : decode cL_each 59 = .ok (.if_icmp .ge 188, 3) := by decide +kernel
theorem dL_each_62 : decode cL_each 62 = .ok (.iload 6, 2) := by decide +kernel
theorem dL_each_64 : decode cL_each 64 = .ok (.ifCond .eq 183, 3) := by decide +kernel
theorem dL_each_67 : decode cL_each 67 = .ok (.aload_n 0, 1) := by decide +kernel
theorem dL_each_68 : decode cL_each 68 = .ok (.iload 7, 2) := by decide +kernel
theorem dL_each_70 : decode cL_each 70 = .ok (.invokevirtual 73, 3) := by decide +kernel
theorem dL_each_73 : decode cL_each 73 = .ok (.istore 8, 2) := by decide +kernel
theorem dL_each_75 : decode cL_each 75 = .ok (.aload_n 0, 1) := by decide +kernel
theorem dL_each_76 : decode cL_each 76 = .ok (.bipush 7, 2) := by decide +kernel
theorem dL_each_78 : decode cL_each 78 = .ok (.invokevirtual 76, 3) := by decide +kernel
theorem dL_each_81 : decode cL_each 81 = .ok (.istore 9, 2) := by decide +kernel
theorem dL_each_83 : decode cL_each 83 = .ok (.aload_n 0, 1) := by decide +kernel
theorem dL_each_84 : decode cL_each 84 = .ok (.bipush 8, 2) := by decide +kernel
theorem dL_each_86 : decode cL_each 86 = .ok (.invokevirtual 76, 3) := by decide +kernel
theorem dL_each_89 : decode cL_each 89 = .ok (.istore 10, 2) := by decide +kernel
theorem dL_each_91 : decode cL_each 91 = .ok (.aload_n 0, 1) := by decide +kernel
theorem dL_each_92 : decode cL_each 92 = .ok (.iload 7, 2) := by decide +kernel
theorem dL_each_94 : decode cL_each 94 = .ok (.invokevirtual 73, 3) := by decide +kernel
theorem dL_each_97 : decode cL_each 97 = .ok (.iload 8, 2) := by decide +kernel
theorem dL_each_99 : decode cL_each 99 = .ok (.if_icmp .ne 31, 3) := by decide +kernel
theorem dL_each_102 : decode cL_each 102 = .ok (.aload_n 0, 1) := by decide +kernel
theorem dL_each_103 : decode cL_each 103 = .ok (.bipush 7, 2) := by decide +kernel
theorem dL_each_105 : decode cL_each 105 = .ok (.invokevirtual 76, 3) := by decide +kernel
theorem dL_each_108 : decode cL_each 108 = .ok (.iload 9, 2) := by decide +kernel
theorem dL_each_110 : decode cL_each 110 = .ok (.iconst 1, 1) := by decide +kernel
theorem dL_each_111 : decode cL_each 111 = .ok (.iadd, 1) := by decide +kernel
theorem dL_each_112 : decode cL_each 112 = .ok (.if_icmp .ne 18, 3) := by decide +kernel
theorem dL_each_115 : decode cL_each 115 = .ok (.aload_n 0, 1) := by decide +kernel
theorem dL_each_116 : decode cL_each 116 = .ok (.bipush 8, 2) := by decide +kernel
theorem dL_each_118 : decode cL_each 118 = .ok (.invokevirtual 76, 3) := by decide +kernel
theorem dL_each_121 : decode cL_each 121 = .ok (.iload 10, 2) := by decide +kernel
theorem dL_each_123 : decode cL_each 123 = .ok (.if_icmp .ne 7, 3) := by decide +kernel
theorem dL_each_126 : decode cL_each 126 = .ok (.iconst 1, 1) := by decide +kernel
theorem dL_each_127 : decode cL_each 127 = .ok (.goto 4, 3) := by decide +kernel
theorem dL_each_130 : decode cL_each 130 = .ok (.iconst 0, 1) := by decide +kernel
theorem dL_each_131 : decode cL_each 131 = .ok (.istore 6, 2) := by decide +kernel
theorem dL_each_133 : decode cL_each 133 = .ok (.iload 5, 2) := by decide +kernel
theorem dL_each_135 : decode cL_each 135 = .ok (.iload 7, 2) := by decide +kernel
theorem dL_each_137 : decode cL_each 137 = .ok (.ishr, 1) := by decide +kernel
theorem dL_each_138 : decode cL_each 138 = .ok (.iconst 1, 1) := by decide +kernel
theorem dL_each_139 : decode cL_each 139 = .ok (.iand, 1) := by decide +kernel
theorem dL_each_140 : decode cL_each 140 = .ok (.iconst 1, 1) := by decide +kernel
theorem dL_each_141 : decode cL_each 141 = .ok (.if_icmp .ne 60, 3) := by decide +kernel
theorem dL_each_144 : decode cL_each 144 = .ok (.iload 6, 2) := by decide +kernel
theorem dL_each_146 : decode cL_each 146 = .ok (.ifCond .eq 49, 3) := by decide +kernel
theorem dL_each_149 : decode cL_each 149 = .ok (.iload 8, 2) := by decide +kernel
theorem dL_each_151 : decode cL_each 151 = .ok (.ifCond .lt 44, 3) := by decide +kernel
theorem dL_each_154 : decode cL_each 154 = .ok (.aload_n 0, 1) := by decide +kernel
theorem dL_each_155 : decode cL_each 155 = .ok (.iload 7, 2) := by decide +kernel
theorem dL_each_157 : decode cL_each 157 = .ok (.invokevirtual 79, 3) := by decide +kernel
theorem dL_each_160 : decode cL_each 160 = .ok (.ifCond .le 35, 3) := by decide +kernel
theorem dL_each_163 : decode cL_each 163 = .ok (.aload_n 0, 1) := by decide +kernel
theorem dL_each_164 : decode cL_each 164 = .ok (.aload_n 1, 1) := by decide +kernel
theorem dL_each_165 : decode cL_each 165 = .ok (.aload_n 2, 1) := by decide +kernel
theorem dL_each_166 : decode cL_each 166 = .ok (.iload 7, 2) := by decide +kernel
theorem dL_each_168 : decode cL_each 168 = .ok (.aload_n 3, 1) := by decide +kernel
theorem dL_each_169 : decode cL_each 169 = .ok (.invokestatic 82, 3) := by decide +kernel
theorem dL_each_172 : decode cL_each 172 = .ok (.iload 8, 2) := by decide +kernel
theorem dL_each_174 : decode cL_each 174 = .ok (.if_icmp .ne 21, 3) := by decide +kernel
theorem dL_each_177 : decode cL_each 177 = .ok (.aload_n 0, 1) := by decide +kernel
theorem dL_each_178 : decode cL_each 178 = .ok (.iload 7, 2) := by decide +kernel
theorem dL_each_180 : decode cL_each 180 = .ok (.aload_n 3, 1) := by decide +kernel
theorem dL_each_181 : decode cL_each 181 = .ok (.iconst 0, 1) := by decide +kernel
theorem dL_each_182 : decode cL_each 182 = .ok (.iaload, 1) := by decide +kernel
theorem dL_each_183 : decode cL_each 183 = .ok (.invokevirtual 58, 3) := by decide +kernel
theorem dL_each_186 : decode cL_each 186 = .ok (.bipush (-4), 2) := by decide +kernel
theorem dL_each_188 : decode cL_each 188 = .ok (.if_icmp .ne 7, 3) := by decide +kernel
theorem dL_each_191 : decode cL_each 191 = .ok (.iconst 1, 1) := by decide +kernel
theorem dL_each_192 : decode cL_each 192 = .ok (.goto 4, 3) := by decide +kernel
theorem dL_each_195 : decode cL_each 195 = .ok (.iconst 0, 1) := by decide +kernel
theorem dL_each_196 : decode cL_each 196 = .ok (.istore 6, 2) := by decide +kernel
theorem dL_each_198 : decode cL_each 198 = .ok (.goto 43, 3) := by decide +kernel
theorem dL_each_201 : decode cL_each 201 = .ok (.iload 6, 2) := by decide +kernel
theorem dL_each_203 : decode cL_each 203 = .ok (.ifCond .eq 35, 3) := by decide +kernel
theorem dL_each_206 : decode cL_each 206 = .ok (.iload 8, 2) := by decide +kernel
theorem dL_each_208 : decode cL_each 208 = .ok (.bipush (-4), 2) := by decide +kernel
theorem dL_each_210 : decode cL_each 210 = .ok (.if_icmp .ne 28, 3) := by decide +kernel
theorem dL_each_213 : decode cL_each 213 = .ok (.aload_n 0, 1) := by decide +kernel
theorem dL_each_214 : decode cL_each 214 = .ok (.iload 7, 2) := by decide +kernel
theorem dL_each_216 : decode cL_each 216 = .ok (.invokevirtual 79, 3) := by decide +kernel
theorem dL_each_219 : decode cL_each 219 = .ok (.ifCond .ne 19, 3) := by decide +kernel
theorem dL_each_222 : decode cL_each 222 = .ok (.aload_n 0, 1) := by decide +kernel
theorem dL_each_223 : decode cL_each 223 = .ok (.iload 7, 2) := by decide +kernel
theorem dL_each_225 : decode cL_each 225 = .ok (.iconst 0, 1) := by decide +kernel
theorem dL_each_226 : decode cL_each 226 = .ok (.invokevirtual 58, 3) := by decide +kernel
theorem dL_each_229 : decode cL_each 229 = .ok (.bipush (-4), 2) := by decide +kernel
theorem dL_each_231 : decode cL_each 231 = .ok (.if_icmp .ne 7, 3) := by decide +kernel
theorem dL_each_234 : decode cL_each 234 = .ok (.iconst 1, 1) := by decide +kernel
theorem dL_each_235 : decode cL_each 235 = .ok (.goto 4, 3) := by decide +kernel
theorem dL_each_238 : decode cL_each 238 = .ok (.iconst 0, 1) := by decide +kernel
theorem dL_each_239 : decode cL_each 239 = .ok (.istore 6, 2) := by decide +kernel
theorem dL_each_241 : decode cL_each 241 = .ok (.iinc 7 1, 3) := by decide +kernel
theorem dL_each_244 : decode cL_each 244 = .ok (.goto (-190), 3) := by decide +kernel
theorem dL_each_247 : decode cL_each 247 = .ok (.iload 6, 2) := by decide +kernel
theorem dL_each_249 : decode cL_each 249 = .ok (.ireturn, 1) := by decide +kernel
theorem dL_bits_0 : decode cL_bits 0 = .ok (.iconst 0, 1) := by decide +kernel
theorem dL_bits_1 : decode cL_bits 1 = .ok (.istore_n 1, 1) := by decide +kernel
theorem dL_bits_2 : decode cL_bits 2 = .ok (.iconst 0, 1) := by decide +kernel
theorem dL_bits_3 : decode cL_bits 3 = .ok (.istore_n 2, 1) := by decide +kernel
theorem dL_bits_4 : decode cL_bits 4 = .ok (.iload_n 2, 1) := by decide +kernel
theorem dL_bits_5 : decode cL_bits 5 = .ok (.bipush 8, 2) := by decide +kernel
theorem dL_bits_7 : decode cL_bits 7 = .ok (.if_icmp .ge 17, 3) := by decide +kernel
theorem dL_bits_10 : decode cL_bits 10 = .ok (.iload_n 1, 1) := by decide +kernel
theorem dL_bits_11 : decode cL_bits 11 = .ok (.iload_n 0, 1) := by decide +kernel
theorem dL_bits_12 : decode cL_bits 12 = .ok (.iload_n 2, 1) := by decide +kernel
theorem dL_bits_13 : decode cL_bits 13 = .ok (.ishr, 1) := by decide +kernel
theorem dL_bits_14 : decode cL_bits 14 = .ok (.iconst 1, 1) := by decide +kernel
theorem dL_bits_15 : decode cL_bits 15 = .ok (.iand, 1) := by decide +kernel
theorem dL_bits_16 : decode cL_bits 16 = .ok (.iadd, 1) := by decide +kernel
theorem dL_bits_17 : decode cL_bits 17 = .ok (.istore_n 1, 1) := by decide +kernel
theorem dL_bits_18 : decode cL_bits 18 = .ok (.iinc 2 1, 3) := by decide +kernel
theorem dL_bits_21 : decode cL_bits 21 = .ok (.goto (-17), 3) := by decide +kernel
theorem dL_bits_24 : decode cL_bits 24 = .ok (.iload_n 1, 1) := by decide +kernel
theorem dL_bits_25 : decode cL_bits 25 = .ok (.ireturn, 1) := by decide +kernel
theorem dL_ordered_0 : decode cL_ordered 0 = .ok (.aload_n 0, 1) := by decide +kernel
theorem dL_ordered_1 : decode cL_ordered 1 = .ok (.iconst 0, 1) := by decide +kernel
theorem dL_ordered_2 : decode cL_ordered 2 = .ok (.invokevirtual 70, 3) := by decide +kernel
theorem dL_ordered_5 : decode cL_ordered 5 = .ok (.invokestatic 86, 3) := by decide +kernel
theorem dL_ordered_8 : decode cL_ordered 8 = .ok (.istore_n 2, 1) := by decide +kernel
theorem dL_ordered_9 : decode cL_ordered 9 = .ok (.aload_n 0, 1) := by decide +kernel
theorem dL_ordered_10 : decode cL_ordered 10 = .ok (.iconst 1, 1) := by decide +kernel
theorem dL_ordered_11 : decode cL_ordered 11 = .ok (.invokevirtual 70, 3) := by decide +kernel
theorem dL_ordered_14 : decode cL_ordered 14 = .ok (.istore_n 3, 1) := by decide +kernel
theorem dL_ordered_15 : decode cL_ordered 15 = .ok (.aload_n 0, 1) := by decide +kernel
theorem dL_ordered_16 : decode cL_ordered 16 = .ok (.bipush 7, 2) := by decide +kernel
theorem dL_ordered_18 : decode cL_ordered 18 = .ok (.invokevirtual 76, 3) := by decide +kernel
theorem dL_ordered_21 : decode cL_ordered 21 = .ok (.aload_n 0, 1) := by decide +kernel
theorem dL_ordered_22 : decode cL_ordered 22 = .ok (.bipush 8, 2) := by decide +kernel
theorem dL_ordered_24 : decode cL_ordered 24 = .ok (.invokevirtual 76, 3) := by decide +kernel
theorem dL_ordered_27 : decode cL_ordered 27 = .ok (.iadd, 1) := by decide +kernel
theorem dL_ordered_28 : decode cL_ordered 28 = .ok (.istore 4, 2) := by decide +kernel
theorem dL_ordered_30 : decode cL_ordered 30 = .ok (.aload_n 0, 1) := by decide +kernel
theorem dL_ordered_31 : decode cL_ordered 31 = .ok (.iconst (-1), 1) := by decide +kernel
theorem dL_ordered_32 : decode cL_ordered 32 = .ok (.invokevirtual 89, 3) := by decide +kernel
theorem dL_ordered_35 : decode cL_ordered 35 = .ok (.istore 5, 2) := by decide +kernel
theorem dL_ordered_37 : decode cL_ordered 37 = .ok (.iload 5, 2) := by decide +kernel
theorem dL_ordered_39 : decode cL_ordered 39 = .ok (.iload_n 3, 1) := by decide +kernel
theorem dL_ordered_40 : decode cL_ordered 40 = .ok (.invokestatic 86, 3) := by decide +kernel
theorem dL_ordered_43 : decode cL_ordered 43 = .ok (.if_icmp .ne 52, 3) := by decide +kernel
theorem dL_ordered_46 : decode cL_ordered 46 = .ok (.aload_n 0, 1) := by decide +kernel
theorem dL_ordered_47 : decode cL_ordered 47 = .ok (.bipush 7, 2) := by decide +kernel
theorem dL_ordered_49 : decode cL_ordered 49 = .ok (.invokevirtual 76, 3) := by decide +kernel
theorem dL_ordered_52 : decode cL_ordered 52 = .ok (.aload_n 0, 1) := by decide +kernel
theorem dL_ordered_53 : decode cL_ordered 53 = .ok (.bipush 8, 2) := by decide +kernel
theorem dL_ordered_55 : decode cL_ordered 55 = .ok (.invokevirtual 76, 3) := by decide +kernel
theorem dL_ordered_58 : decode cL_ordered 58 = .ok (.iadd, 1) := by decide +kernel
theorem dL_ordered_59 : decode cL_ordered 59 = .ok (.iload 4, 2) := by decide +kernel
theorem dL_ordered_61 : decode cL_ordered 61 = .ok (.iload_n 2, 1) := by decide +kernel
theorem dL_ordered_62 : decode cL_ordered 62 = .ok (.iadd, 1) := by decide +kernel
theorem dL_ordered_63 : decode cL_ordered 63 = .ok (.if_icmp .ne 32, 3) := by decide +kernel
theorem dL_ordered_66 : decode cL_ordered 66 = .ok (.aload_n 0, 1) := by decide +kernel
theorem dL_ordered_67 : decode cL_ordered 67 = .ok (.iconst 0, 1) := by decide +kernel
theorem dL_ordered_68 : decode cL_ordered 68 = .ok (.invokevirtual 92, 3) := by decide +kernel
theorem dL_ordered_71 : decode cL_ordered 71 = .ok (.aload_n 0, 1) := by decide +kernel
theorem dL_ordered_72 : decode cL_ordered 72 = .ok (.bipush 12, 2) := by decide +kernel
theorem dL_ordered_74 : decode cL_ordered 74 = .ok (.invokevirtual 76, 3) := by decide +kernel
theorem dL_ordered_77 : decode cL_ordered 77 = .ok (.if_icmp .ne 18, 3) := by decide +kernel
theorem dL_ordered_80 : decode cL_ordered 80 = .ok (.aload_n 0, 1) := by decide +kernel
theorem dL_ordered_81 : decode cL_ordered 81 = .ok (.iload 5, 2) := by decide +kernel
theorem dL_ordered_83 : decode cL_ordered 83 = .ok (.invokevirtual 89, 3) := by decide +kernel
theorem dL_ordered_86 : decode cL_ordered 86 = .ok (.bipush (-4), 2) := by decide +kernel
theorem dL_ordered_88 : decode cL_ordered 88 = .ok (.if_icmp .ne 7, 3) := by decide +kernel
theorem dL_ordered_91 : decode cL_ordered 91 = .ok (.iconst 1, 1) := by decide +kernel
theorem dL_ordered_92 : decode cL_ordered 92 = .ok (.goto 4, 3) := by decide +kernel
theorem dL_ordered_95 : decode cL_ordered 95 = .ok (.iconst 0, 1) := by decide +kernel
theorem dL_ordered_96 : decode cL_ordered 96 = .ok (.istore 6, 2) := by decide +kernel
theorem dL_ordered_98 : decode cL_ordered 98 = .ok (.iconst 0, 1) := by decide +kernel
theorem dL_ordered_99 : decode cL_ordered 99 = .ok (.istore 7, 2) := by decide +kernel
theorem dL_ordered_101 : decode cL_ordered 101 = .ok (.iconst (-1), 1) := by decide +kernel
theorem dL_ordered_102 : decode cL_ordered 102 = .ok (.istore 8, 2) := by decide +kernel
theorem dL_ordered_104 : decode cL_ordered 104 = .ok (.iconst 0, 1) := by decide +kernel
theorem dL_ordered_105 : decode cL_ordered 105 = .ok (.istore 9, 2) := by decide +kernel
theorem dL_ordered_107 : decode cL_ordered 107 = .ok (.iload 9, 2) := by decide +kernel
theorem dL_ordered_109 : decode cL_ordered 109 = .ok (.iload 5, 2) := by decide +kernel
theorem dL_ordered_111 : decode cL_ordered 111 = .ok (.if_icmp .ge 205, 3) := by decide +kernel
theorem dL_ordered_114 : decode cL_ordered 114 = .ok (.iload 6, 2) := by decide +kernel
theorem dL_ordered_116 : decode cL_ordered 116 = .ok (.ifCond .eq 200, 3) := by decide +kernel
theorem dL_ordered_119 : decode cL_ordered 119 = .ok (.aload_n 0, 1) := by decide +kernel
theorem dL_ordered_120 : decode cL_ordered 120 = .ok (.iload 9, 2) := by decide +kernel
theorem dL_ordered_122 : decode cL_ordered 122 = .ok (.invokevirtual 89, 3) := by decide +kernel
theorem dL_ordered_125 : decode cL_ordered 125 = .ok (.istore 10, 2) := by decide +kernel
theorem dL_ordered_127 : decode cL_ordered 127 = .ok (.iload 10, 2) := by decide +kernel
theorem dL_ordered_129 : decode cL_ordered 129 = .ok (.ifCond .lt 35, 3) := by decide +kernel
theorem dL_ordered_132 : decode cL_ordered 132 = .ok (.iload 10, 2) := by decide +kernel
theorem dL_ordered_134 : decode cL_ordered 134 = .ok (.aload_n 1, 1) := by decide +kernel
theorem dL_ordered_135 : decode cL_ordered 135 = .ok (.iconst 0, 1) := by decide +kernel
theorem dL_ordered_136 : decode cL_ordered 136 = .ok (.iaload, 1) := by decide +kernel
theorem dL_ordered_137 : decode cL_ordered 137 = .ok (.if_icmp .ge 27, 3) := by decide +kernel
theorem dL_ordered_140 : decode cL_ordered 140 = .ok (.iload_n 3, 1) := by decide +kernel
theorem dL_ordered_141 : decode cL_ordered 141 = .ok (.iload 10, 2) := by decide +kernel
theorem dL_ordered_143 : decode cL_ordered 143 = .ok (.ishr, 1) := by decide +kernel
theorem dL_ordered_144 : decode cL_ordered 144 = .ok (.iconst 1, 1) := by decide +kernel
theorem dL_ordered_145 : decode cL_ordered 145 = .ok (.iand, 1) := by decide +kernel
theorem dL_ordered_146 : decode cL_ordered 146 = .ok (.iconst 1, 1) := by decide +kernel
theorem dL_ordered_147 : decode cL_ordered 147 = .ok (.if_icmp .ne 17, 3) := by decide +kernel
theorem dL_ordered_150 : decode cL_ordered 150 = .ok (.iload 7, 2) := by decide +kernel
theorem dL_ordered_152 : decode cL_ordered 152 = .ok (.iload 10, 2) := by decide +kernel
theorem dL_ordered_154 : decode cL_ordered 154 = .ok (.ishr, 1) := by decide +kernel
theorem dL_ordered_155 : decode cL_ordered 155 = .ok (.iconst 1, 1) := by decide +kernel
theorem dL_ordered_156 : decode cL_ordered 156 = .ok (.iand, 1) := by decide +kernel
theorem dL_ordered_157 : decode cL_ordered 157 = .ok (.ifCond .ne 7, 3) := by decide +kernel
theorem dL_ordered_160 : decode cL_ordered 160 = .ok (.iconst 1, 1) := by decide +kernel
theorem dL_ordered_161 : decode cL_ordered 161 = .ok (.goto 4, 3) := by decide +kernel
theorem dL_ordered_164 : decode cL_ordered 164 = .ok (.iconst 0, 1) := by decide +kernel
theorem dL_ordered_165 : decode cL_ordered 165 = .ok (.istore 6, 2) := by decide +kernel
theorem dL_ordered_167 : decode cL_ordered 167 = .ok (.iload 6, 2) := by decide +kernel
theorem dL_ordered_169 : decode cL_ordered 169 = .ok (.ifCond .eq 119, 3) := by decide +kernel
theorem dL_ordered_172 : decode cL_ordered 172 = .ok (.iload 9, 2) := by decide +kernel
theorem dL_ordered_174 : decode cL_ordered 174 = .ok (.ifCond .le 114, 3) := by decide +kernel
theorem dL_ordered_177 : decode cL_ordered 177 = .ok (.aload_n 0, 1) := by decide +kernel
theorem dL_ordered_178 : decode cL_ordered 178 = .ok (.iload 8, 2) := by decide +kernel
theorem dL_ordered_180 : decode cL_ordered 180 = .ok (.invokevirtual 73, 3) := by decide +kernel
theorem dL_ordered_183 : decode cL_ordered 183 = .ok (.istore 11, 2) := by decide +kernel
theorem dL_ordered_185 : decode cL_ordered 185 = .ok (.aload_n 0, 1) := by decide +kernel
theorem dL_ordered_186 : decode cL_ordered 186 = .ok (.iload 10, 2) := by decide +kernel
theorem dL_ordered_188 : decode cL_ordered 188 = .ok (.invokevirtual 73, 3) := by decide +kernel
theorem dL_ordered_191 : decode cL_ordered 191 = .ok (.istore 12, 2) := by decide +kernel
theorem dL_ordered_193 : decode cL_ordered 193 = .ok (.aload_n 0, 1) := by decide +kernel
theorem dL_ordered_194 : decode cL_ordered 194 = .ok (.iload 8, 2) := by decide +kernel
theorem dL_ordered_196 : decode cL_ordered 196 = .ok (.iconst 3, 1) := by decide +kernel
theorem dL_ordered_197 : decode cL_ordered 197 = .ok (.invokevirtual 95, 3) := by decide +kernel
theorem dL_ordered_200 : decode cL_ordered 200 = .ok (.istore 13, 2) := by decide +kernel
theorem dL_ordered_202 : decode cL_ordered 202 = .ok (.aload_n 0, 1) := by decide +kernel
theorem dL_ordered_203 : decode cL_ordered 203 = .ok (.iload 10, 2) := by decide +kernel
theorem dL_ordered_205 : decode cL_ordered 205 = .ok (.iconst 3, 1) := by decide +kernel
theorem dL_ordered_206 : decode cL_ordered 206 = .ok (.invokevirtual 95, 3) := by decide +kernel
theorem dL_ordered_209 : decode cL_ordered 209 = .ok (.istore 14, 2) := by decide +kernel
theorem dL_ordered_211 : decode cL_ordered 211 = .ok (.iload 11, 2) := by decide +kernel
theorem dL_ordered_213 : decode cL_ordered 213 = .ok (.iload 12, 2) := by decide +kernel
theorem dL_ordered_215 : decode cL_ordered 215 = .ok (.if_icmp .gt 66, 3) := by decide +kernel
theorem dL_ordered_218 : decode cL_ordered 218 = .ok (.iload 11, 2) := by decide +kernel
theorem dL_ordered_220 : decode cL_ordered 220 = .ok (.iload 12, 2) := by decide +kernel
theorem dL_ordered_222 : decode cL_ordered 222 = .ok (.if_icmp .ne 63, 3) := by decide +kernel
theorem dL_ordered_225 : decode cL_ordered 225 = .ok (.iload 13, 2) := by decide +kernel
theorem dL_ordered_227 : decode cL_ordered 227 = .ok (.iload 14, 2) := by decide +kernel
theorem dL_ordered_229 : decode cL_ordered 229 = .ok (.if_icmp .gt 52, 3) := by decide +kernel
theorem dL_ordered_232 : decode cL_ordered 232 = .ok (.iload 13, 2) := by decide +kernel
theorem dL_ordered_234 : decode cL_ordered 234 = .ok (.iload 14, 2) := by decide +kernel
theorem dL_ordered_236 : decode cL_ordered 236 = .ok (.if_icmp .ne 49, 3) := by decide +kernel
theorem dL_ordered_239 : decode cL_ordered 239 = .ok (.iload 13, 2) := by decide +kernel
theorem dL_ordered_241 : decode cL_ordered 241 = .ok (.ifCond .ne 44, 3) := by decide +kernel
theorem dL_ordered_244 : decode cL_ordered 244 = .ok (.aload_n 1, 1) := by decide +kernel
theorem dL_ordered_245 : decode cL_ordered 245 = .ok (.iconst 1, 1) := by decide +kernel
theorem dL_ordered_246 : decode cL_ordered 246 = .ok (.iload 8, 2) := by decide +kernel
theorem dL_ordered_248 : decode cL_ordered 248 = .ok (.iadd, 1) := by decide +kernel
theorem dL_ordered_249 : decode cL_ordered 249 = .ok (.iaload, 1) := by decide +kernel
theorem dL_ordered_250 : decode cL_ordered 250 = .ok (.aload_n 1, 1) := by decide +kernel
theorem dL_ordered_251 : decode cL_ordered 251 = .ok (.iconst 1, 1) := by decide +kernel
theorem dL_ordered_252 : decode cL_ordered 252 = .ok (.iload 10, 2) := by decide +kernel
theorem dL_ordered_254 : decode cL_ordered 254 = .ok (.iadd, 1) := by decide +kernel
theorem dL_ordered_255 : decode cL_ordered 255 = .ok (.iaload, 1) := by decide +kernel
theorem dL_ordered_256 : decode cL_ordered 256 = .ok (.if_icmp .lt 25, 3) := by decide +kernel
theorem dL_ordered_259 : decode cL_ordered 259 = .ok (.aload_n 1, 1) := by decide +kernel
theorem dL_ordered_260 : decode cL_ordered 260 = .ok (.iconst 1, 1) := by decide +kernel
theorem dL_ordered_261 : decode cL_ordered 261 = .ok (.iload 8, 2) := by decide +kernel
theorem dL_ordered_263 : decode cL_ordered 263 = .ok (.iadd, 1) := by decide +kernel
theorem dL_ordered_264 : decode cL_ordered 264 = .ok (.iaload, 1) := by decide +kernel
theorem dL_ordered_265 : decode cL_ordered 265 = .ok (.aload_n 1, 1) := by decide +kernel
theorem dL_ordered_266 : decode cL_ordered 266 = .ok (.iconst 1, 1) := by decide +kernel
theorem dL_ordered_267 : decode cL_ordered 267 = .ok (.iload 10, 2) := by decide +kernel
theorem dL_ordered_269 : decode cL_ordered 269 = .ok (.iadd, 1) := by decide +kernel
theorem dL_ordered_270 : decode cL_ordered 270 = .ok (.iaload, 1) := by decide +kernel
theorem dL_ordered_271 : decode cL_ordered 271 = .ok (.if_icmp .ne 14, 3) := by decide +kernel
theorem dL_ordered_274 : decode cL_ordered 274 = .ok (.iload 8, 2) := by decide +kernel
theorem dL_ordered_276 : decode cL_ordered 276 = .ok (.iload 10, 2) := by decide +kernel
theorem dL_ordered_278 : decode cL_ordered 278 = .ok (.if_icmp .ge 7, 3) := by decide +kernel
theorem dL_ordered_281 : decode cL_ordered 281 = .ok (.iconst 1, 1) := by decide +kernel
theorem dL_ordered_282 : decode cL_ordered 282 = .ok (.goto 4, 3) := by decide +kernel
theorem dL_ordered_285 : decode cL_ordered 285 = .ok (.iconst 0, 1) := by decide +kernel
theorem dL_ordered_286 : decode cL_ordered 286 = .ok (.istore 6, 2) := by decide +kernel
theorem dL_ordered_288 : decode cL_ordered 288 = .ok (.iload 7, 2) := by decide +kernel
theorem dL_ordered_290 : decode cL_ordered 290 = .ok (.iload 6, 2) := by decide +kernel
theorem dL_ordered_292 : decode cL_ordered 292 = .ok (.ifCond .eq 10, 3) := by decide +kernel
theorem dL_ordered_295 : decode cL_ordered 295 = .ok (.iconst 1, 1) := by decide +kernel
theorem dL_ordered_296 : decode cL_ordered 296 = .ok (.iload 10, 2) := by decide +kernel
theorem dL_ordered_298 : decode cL_ordered 298 = .ok (.ishl, 1) := by decide +kernel
theorem dL_ordered_299 : decode cL_ordered 299 = .ok (.goto 4, 3) := by decide +kernel
theorem dL_ordered_302 : decode cL_ordered 302 = .ok (.iconst 0, 1) := by decide +kernel
theorem dL_ordered_303 : decode cL_ordered 303 = .ok (.iadd, 1) := by decide +kernel
theorem dL_ordered_304 : decode cL_ordered 304 = .ok (.istore 7, 2) := by decide +kernel
theorem dL_ordered_306 : decode cL_ordered 306 = .ok (.iload 10, 2) := by decide +kernel
theorem dL_ordered_308 : decode cL_ordered 308 = .ok (.istore 8, 2) := by decide +kernel
theorem dL_ordered_310 : decode cL_ordered 310 = .ok (.iinc 9 1, 3) := by decide +kernel
theorem dL_ordered_313 : decode cL_ordered 313 = .ok (.goto (-206), 3) := by decide +kernel
theorem dL_ordered_316 : decode cL_ordered 316 = .ok (.iload 6, 2) := by decide +kernel
theorem dL_ordered_318 : decode cL_ordered 318 = .ok (.ifCond .eq 13, 3) := by decide +kernel
theorem dL_ordered_321 : decode cL_ordered 321 = .ok (.iload 7, 2) := by decide +kernel
theorem dL_ordered_323 : decode cL_ordered 323 = .ok (.iload_n 3, 1) := by decide +kernel
theorem dL_ordered_324 : decode cL_ordered 324 = .ok (.if_icmp .ne 7, 3) := by decide +kernel
theorem dL_ordered_327 : decode cL_ordered 327 = .ok (.iconst 1, 1) := by decide +kernel
theorem dL_ordered_328 : decode cL_ordered 328 = .ok (.goto 4, 3) := by decide +kernel
theorem dL_ordered_331 : decode cL_ordered 331 = .ok (.iconst 0, 1) := by decide +kernel
theorem dL_ordered_332 : decode cL_ordered 332 = .ok (.ireturn, 1) := by decide +kernel
theorem dL_first_0 : decode cL_first 0 = .ok (.aload_n 0, 1) := by decide +kernel
theorem dL_first_1 : decode cL_first 1 = .ok (.iload_n 1, 1) := by decide +kernel
theorem dL_first_2 : decode cL_first 2 = .ok (.invokevirtual 98, 3) := by decide +kernel
theorem dL_first_5 : decode cL_first 5 = .ok (.istore_n 3, 1) := by decide +kernel
theorem dL_first_6 : decode cL_first 6 = .ok (.iload_n 3, 1) := by decide +kernel
theorem dL_first_7 : decode cL_first 7 = .ok (.bipush (-4), 2) := by decide +kernel
theorem dL_first_9 : decode cL_first 9 = .ok (.if_icmp .ne 5, 3) := by decide +kernel
theorem dL_first_12 : decode cL_first 12 = .ok (.iconst 1, 1) := by decide +kernel
theorem dL_first_13 : decode cL_first 13 = .ok (.ireturn, 1) := by decide +kernel
theorem dL_first_14 : decode cL_first 14 = .ok (.iload_n 3, 1) := by decide +kernel
theorem dL_first_15 : decode cL_first 15 = .ok (.bipush 27, 2) := by decide +kernel
theorem dL_first_17 : decode cL_first 17 = .ok (.idiv, 1) := by decide +kernel
theorem dL_first_18 : decode cL_first 18 = .ok (.iconst 1, 1) := by decide +kernel
theorem dL_first_19 : decode cL_first 19 = .ok (.if_icmp .lt 33, 3) := by decide +kernel
theorem dL_first_22 : decode cL_first 22 = .ok (.iload_n 3, 1) := by decide +kernel
theorem dL_first_23 : decode cL_first 23 = .ok (.bipush 27, 2) := by decide +kernel
theorem dL_first_25 : decode cL_first 25 = .ok (.idiv, 1) := by decide +kernel
theorem dL_first_26 : decode cL_first 26 = .ok (.bipush 26, 2) := by decide +kernel
theorem dL_first_28 : decode cL_first 28 = .ok (.if_icmp .gt 24, 3) := by decide +kernel
theorem dL_first_31 : decode cL_first 31 = .ok (.iload_n 3, 1) := by decide +kernel
theorem dL_first_32 : decode cL_first 32 = .ok (.bipush 27, 2) := by decide +kernel
theorem dL_first_34 : decode cL_first 34 = .ok (.irem, 1) := by decide +kernel
theorem dL_first_35 : decode cL_first 35 = .ok (.bipush 26, 2) := by decide +kernel
theorem dL_first_37 : decode cL_first 37 = .ok (.if_icmp .gt 15, 3) := by decide +kernel
theorem dL_first_40 : decode cL_first 40 = .ok (.aload_n 0, 1) := by decide +kernel
theorem dL_first_41 : decode cL_first 41 = .ok (.invokevirtual 101, 3) := by decide +kernel
theorem dL_first_44 : decode cL_first 44 = .ok (.iconst 1, 1) := by decide +kernel
theorem dL_first_45 : decode cL_first 45 = .ok (.if_icmp .ne 7, 3) := by decide +kernel
theorem dL_first_48 : decode cL_first 48 = .ok (.iconst 1, 1) := by decide +kernel
theorem dL_first_49 : decode cL_first 49 = .ok (.goto 4, 3) := by decide +kernel
theorem dL_first_52 : decode cL_first 52 = .ok (.iconst 0, 1) := by decide +kernel
theorem dL_first_53 : decode cL_first 53 = .ok (.istore 4, 2) := by decide +kernel
theorem dL_first_55 : decode cL_first 55 = .ok (.iconst 0, 1) := by decide +kernel
theorem dL_first_56 : decode cL_first 56 = .ok (.istore 5, 2) := by decide +kernel
theorem dL_first_58 : decode cL_first 58 = .ok (.iload 5, 2) := by decide +kernel
theorem dL_first_60 : decode cL_first 60 = .ok (.aload_n 2, 1) := by decide +kernel
theorem dL_first_61 : decode cL_first 61 = .ok (.iconst 0, 1) := by decide +kernel
theorem dL_first_62 : decode cL_first 62 = .ok (.iaload, 1) := by decide +kernel
theorem dL_first_63 : decode cL_first 63 = .ok (.if_icmp .ge 36, 3) := by decide +kernel
theorem dL_first_66 : decode cL_first 66 = .ok (.iload 4, 2) := by decide +kernel
theorem dL_first_68 : decode cL_first 68 = .ok (.ifCond .eq 31, 3) := by decide +kernel
theorem dL_first_71 : decode cL_first 71 = .ok (.aload_n 0, 1) := by decide +kernel
theorem dL_first_72 : decode cL_first 72 = .ok (.invokevirtual 46, 3) := by decide +kernel
theorem dL_first_75 : decode cL_first 75 = .ok (.aload_n 2, 1) := by decide +kernel
theorem dL_first_76 : decode cL_first 76 = .ok (.aload_n 2, 1) := by decide +kernel
theorem dL_first_77 : decode cL_first 77 = .ok (.iconst 0, 1) := by decide +kernel
theorem dL_first_78 : decode cL_first 78 = .ok (.iaload, 1) := by decide +kernel
theorem dL_first_79 : decode cL_first 79 = .ok (.iload 5, 2) := by decide +kernel
theorem dL_first_81 : decode cL_first 81 = .ok (.isub, 1) := by decide +kernel
theorem dL_first_82 : decode cL_first 82 = .ok (.iaload, 1) := by decide +kernel
theorem dL_first_83 : decode cL_first 83 = .ok (.if_icmp .ne 7, 3) := by decide +kernel
theorem dL_first_86 : decode cL_first 86 = .ok (.iconst 1, 1) := by decide +kernel
theorem dL_first_87 : decode cL_first 87 = .ok (.goto 4, 3) := by decide +kernel
theorem dL_first_90 : decode cL_first 90 = .ok (.iconst 0, 1) := by decide +kernel
theorem dL_first_91 : decode cL_first 91 = .ok (.istore 4, 2) := by decide +kernel
theorem dL_first_93 : decode cL_first 93 = .ok (.iinc 5 1, 3) := by decide +kernel
theorem dL_first_96 : decode cL_first 96 = .ok (.goto (-38), 3) := by decide +kernel
theorem dL_first_99 : decode cL_first 99 = .ok (.iload 4, 2) := by decide +kernel
theorem dL_first_101 : decode cL_first 101 = .ok (.ifCond .eq 80, 3) := by decide +kernel
theorem dL_first_104 : decode cL_first 104 = .ok (.aload_n 0, 1) := by decide +kernel
theorem dL_first_105 : decode cL_first 105 = .ok (.bipush 96, 2) := by decide +kernel
theorem dL_first_107 : decode cL_first 107 = .ok (.iload_n 3, 1) := by decide +kernel
theorem dL_first_108 : decode cL_first 108 = .ok (.bipush 27, 2) := by decide +kernel
theorem dL_first_110 : decode cL_first 110 = .ok (.idiv, 1) := by decide +kernel
theorem dL_first_111 : decode cL_first 111 = .ok (.iadd, 1) := by decide +kernel
theorem dL_first_112 : decode cL_first 112 = .ok (.invokevirtual 52, 3) := by decide +kernel
theorem dL_first_115 : decode cL_first 115 = .ok (.iconst 1, 1) := by decide +kernel
theorem dL_first_116 : decode cL_first 116 = .ok (.if_icmp .ne 65, 3) := by decide +kernel
theorem dL_first_119 : decode cL_first 119 = .ok (.iload_n 3, 1) := by decide +kernel
theorem dL_first_120 : decode cL_first 120 = .ok (.bipush 27, 2) := by decide +kernel
theorem dL_first_122 : decode cL_first 122 = .ok (.irem, 1) := by decide +kernel
theorem dL_first_123 : decode cL_first 123 = .ok (.ifCond .eq 18, 3) := by decide +kernel
theorem dL_first_126 : decode cL_first 126 = .ok (.aload_n 0, 1) := by decide +kernel
theorem dL_first_127 : decode cL_first 127 = .ok (.bipush 96, 2) := by decide +kernel
theorem dL_first_129 : decode cL_first 129 = .ok (.iload_n 3, 1) := by decide +kernel
theorem dL_first_130 : decode cL_first 130 = .ok (.bipush 27, 2) := by decide +kernel
theorem dL_first_132 : decode cL_first 132 = .ok (.irem, 1) := by decide +kernel
theorem dL_first_133 : decode cL_first 133 = .ok (.iadd, 1) := by decide +kernel
theorem dL_first_134 : decode cL_first 134 = .ok (.invokevirtual 52, 3) := by decide +kernel
theorem dL_first_137 : decode cL_first 137 = .ok (.iconst 2, 1) := by decide +kernel
theorem dL_first_138 : decode cL_first 138 = .ok (.if_icmp .ne 43, 3) := by decide +kernel
theorem dL_first_141 : decode cL_first 141 = .ok (.aload_n 0, 1) := by decide +kernel
theorem dL_first_142 : decode cL_first 142 = .ok (.iconst 0, 1) := by decide +kernel
theorem dL_first_143 : decode cL_first 143 = .ok (.invokevirtual 89, 3) := by decide +kernel
theorem dL_first_146 : decode cL_first 146 = .ok (.iload_n 1, 1) := by decide +kernel
theorem dL_first_147 : decode cL_first 147 = .ok (.if_icmp .ne 34, 3) := by decide +kernel
theorem dL_first_150 : decode cL_first 150 = .ok (.aload_n 0, 1) := by decide +kernel
theorem dL_first_151 : decode cL_first 151 = .ok (.invokevirtual 104, 3) := by decide +kernel
theorem dL_first_154 : decode cL_first 154 = .ok (.ifCond .ne 27, 3) := by decide +kernel
theorem dL_first_157 : decode cL_first 157 = .ok (.aload_n 0, 1) := by decide +kernel
theorem dL_first_158 : decode cL_first 158 = .ok (.invokevirtual 104, 3) := by decide +kernel
theorem dL_first_161 : decode cL_first 161 = .ok (.bipush (-2), 2) := by decide +kernel
theorem dL_first_163 : decode cL_first 163 = .ok (.if_icmp .ne 18, 3) := by decide +kernel
theorem dL_first_166 : decode cL_first 166 = .ok (.aload_n 0, 1) := by decide +kernel
theorem dL_first_167 : decode cL_first 167 = .ok (.iconst (-1), 1) := by decide +kernel
theorem dL_first_168 : decode cL_first 168 = .ok (.invokevirtual 43, 3) := by decide +kernel
theorem dL_first_171 : decode cL_first 171 = .ok (.aload_n 2, 1) := by decide +kernel
theorem dL_first_172 : decode cL_first 172 = .ok (.iconst 0, 1) := by decide +kernel
theorem dL_first_173 : decode cL_first 173 = .ok (.iaload, 1) := by decide +kernel
theorem dL_first_174 : decode cL_first 174 = .ok (.if_icmp .ne 7, 3) := by decide +kernel
theorem dL_first_177 : decode cL_first 177 = .ok (.iconst 1, 1) := by decide +kernel
theorem dL_first_178 : decode cL_first 178 = .ok (.goto 4, 3) := by decide +kernel
theorem dL_first_181 : decode cL_first 181 = .ok (.iconst 0, 1) := by decide +kernel
theorem dL_first_182 : decode cL_first 182 = .ok (.istore 4, 2) := by decide +kernel
theorem dL_first_184 : decode cL_first 184 = .ok (.iconst 0, 1) := by decide +kernel
theorem dL_first_185 : decode cL_first 185 = .ok (.istore 5, 2) := by decide +kernel
theorem dL_first_187 : decode cL_first 187 = .ok (.iload 5, 2) := by decide +kernel
theorem dL_first_189 : decode cL_first 189 = .ok (.aload_n 2, 1) := by decide +kernel
theorem dL_first_190 : decode cL_first 190 = .ok (.iconst 0, 1) := by decide +kernel
theorem dL_first_191 : decode cL_first 191 = .ok (.iaload, 1) := by decide +kernel
theorem dL_first_192 : decode cL_first 192 = .ok (.if_icmp .ge 36, 3) := by decide +kernel
theorem dL_first_195 : decode cL_first 195 = .ok (.iload 4, 2) := by decide +kernel
theorem dL_first_197 : decode cL_first 197 = .ok (.ifCond .eq 31, 3) := by decide +kernel
theorem dL_first_200 : decode cL_first 200 = .ok (.aload_n 0, 1) := by decide +kernel
theorem dL_first_201 : decode cL_first 201 = .ok (.iload 5, 2) := by decide +kernel
theorem dL_first_203 : decode cL_first 203 = .ok (.invokevirtual 43, 3) := by decide +kernel
theorem dL_first_206 : decode cL_first 206 = .ok (.aload_n 2, 1) := by decide +kernel
theorem dL_first_207 : decode cL_first 207 = .ok (.iconst 1, 1) := by decide +kernel
theorem dL_first_208 : decode cL_first 208 = .ok (.iload 5, 2) := by decide +kernel
theorem dL_first_210 : decode cL_first 210 = .ok (.iadd, 1) := by decide +kernel
theorem dL_first_211 : decode cL_first 211 = .ok (.iaload, 1) := by decide +kernel
theorem dL_first_212 : decode cL_first 212 = .ok (.if_icmp .ne 7, 3) := by decide +kernel
theorem dL_first_215 : decode cL_first 215 = .ok (.iconst 1, 1) := by decide +kernel
theorem dL_first_216 : decode cL_first 216 = .ok (.goto 4, 3) := by decide +kernel
theorem dL_first_219 : decode cL_first 219 = .ok (.iconst 0, 1) := by decide +kernel
theorem dL_first_220 : decode cL_first 220 = .ok (.istore 4, 2) := by decide +kernel
theorem dL_first_222 : decode cL_first 222 = .ok (.iinc 5 1, 3) := by decide +kernel
theorem dL_first_225 : decode cL_first 225 = .ok (.goto (-38), 3) := by decide +kernel
theorem dL_first_228 : decode cL_first 228 = .ok (.iload 4, 2) := by decide +kernel
theorem dL_first_230 : decode cL_first 230 = .ok (.ireturn, 1) := by decide +kernel
theorem dL_law_0 : decode cL_law 0 = .ok (.new 20, 3) := by decide +kernel
theorem dL_law_3 : decode cL_law 3 = .ok (.dup, 1) := by decide +kernel
theorem dL_law_4 : decode cL_law 4 = .ok (.invokespecial 107, 3) := by decide +kernel
theorem dL_law_7 : decode cL_law 7 = .ok (.astore_n 1, 1) := by decide +kernel
theorem dL_law_8 : decode cL_law 8 = .ok (.bipush 32, 2) := by decide +kernel
theorem dL_law_10 : decode cL_law 10 = .ok (.newarray .int, 2) := by decide +kernel
theorem dL_law_12 : decode cL_law 12 = .ok (.astore_n 2, 1) := by decide +kernel
theorem dL_law_13 : decode cL_law 13 = .ok (.bipush 8, 2) := by decide +kernel
theorem dL_law_15 : decode cL_law 15 = .ok (.newarray .long, 2) := by decide +kernel
theorem dL_law_17 : decode cL_law 17 = .ok (.astore_n 3, 1) := by decide +kernel
theorem dL_law_18 : decode cL_law 18 = .ok (.bipush 8, 2) := by decide +kernel
theorem dL_law_20 : decode cL_law 20 = .ok (.newarray .int, 2) := by decide +kernel
theorem dL_law_22 : decode cL_law 22 = .ok (.astore 4, 2) := by decide +kernel
theorem dL_law_24 : decode cL_law 24 = .ok (.bipush 24, 2) := by decide +kernel
theorem dL_law_26 : decode cL_law 26 = .ok (.newarray .int, 2) := by decide +kernel
theorem dL_law_28 : decode cL_law 28 = .ok (.astore 5, 2) := by decide +kernel
theorem dL_law_30 : decode cL_law 30 = .ok (.aload_n 0, 1) := by decide +kernel
theorem dL_law_31 : decode cL_law 31 = .ok (.iconst 0, 1) := by decide +kernel
theorem dL_law_32 : decode cL_law 32 = .ok (.aload_n 2, 1) := by decide +kernel
theorem dL_law_33 : decode cL_law 33 = .ok (.aload_n 3, 1) := by decide +kernel
theorem dL_law_34 : decode cL_law 34 = .ok (.invokestatic 108, 3) := by decide +kernel
theorem dL_law_37 : decode cL_law 37 = .ok (.aload_n 1, 1) := by decide +kernel
theorem dL_law_38 : decode cL_law 38 = .ok (.aload_n 2, 1) := by decide +kernel
theorem dL_law_39 : decode cL_law 39 = .ok (.aload_n 3, 1) := by decide +kernel
theorem dL_law_40 : decode cL_law 40 = .ok (.invokestatic 112, 3) := by decide +kernel
theorem dL_law_43 : decode cL_law 43 = .ok (.ifCond .eq 18, 3) := by decide +kernel
theorem dL_law_46 : decode cL_law 46 = .ok (.aload_n 1, 1) := by decide +kernel
theorem dL_law_47 : decode cL_law 47 = .ok (.aload 4, 2) := by decide +kernel
theorem dL_law_49 : decode cL_law 49 = .ok (.iconst 0, 1) := by decide +kernel
theorem dL_law_50 : decode cL_law 50 = .ok (.iconst 0, 1) := by decide +kernel
theorem dL_law_51 : decode cL_law 51 = .ok (.invokestatic 116, 3) := by decide +kernel
theorem dL_law_54 : decode cL_law 54 = .ok (.ifCond .eq 7, 3) := by decide +kernel
theorem dL_law_57 : decode cL_law 57 = .ok (.iconst 1, 1) := by decide +kernel
theorem dL_law_58 : decode cL_law 58 = .ok (.goto 4, 3) := by decide +kernel
theorem dL_law_61 : decode cL_law 61 = .ok (.iconst 0, 1) := by decide +kernel
theorem dL_law_62 : decode cL_law 62 = .ok (.istore 6, 2) := by decide +kernel
theorem dL_law_64 : decode cL_law 64 = .ok (.iconst 0, 1) := by decide +kernel
theorem dL_law_65 : decode cL_law 65 = .ok (.istore 7, 2) := by decide +kernel
theorem dL_law_67 : decode cL_law 67 = .ok (.iload 7, 2) := by decide +kernel
theorem dL_law_69 : decode cL_law 69 = .ok (.iconst 3, 1) := by decide +kernel
theorem dL_law_70 : decode cL_law 70 = .ok (.if_icmp .ge 70, 3) := by decide +kernel
theorem dL_law_73 : decode cL_law 73 = .ok (.iload 6, 2) := by decide +kernel
theorem dL_law_75 : decode cL_law 75 = .ok (.ifCond .eq 65, 3) := by decide +kernel
theorem dL_law_78 : decode cL_law 78 = .ok (.aload_n 0, 1) := by decide +kernel
theorem dL_law_79 : decode cL_law 79 = .ok (.bipush 26, 2) := by decide +kernel
theorem dL_law_81 : decode cL_law 81 = .ok (.iload 7, 2) := by decide +kernel
theorem dL_law_83 : decode cL_law 83 = .ok (.iadd, 1) := by decide +kernel
theorem dL_law_84 : decode cL_law 84 = .ok (.invokestatic 9, 3) := by decide +kernel
theorem dL_law_87 : decode cL_law 87 = .ok (.aload_n 2, 1) := by decide +kernel
theorem dL_law_88 : decode cL_law 88 = .ok (.iconst 0, 1) := by decide +kernel
theorem dL_law_89 : decode cL_law 89 = .ok (.iaload, 1) := by decide +kernel
theorem dL_law_90 : decode cL_law 90 = .ok (.irem, 1) := by decide +kernel
theorem dL_law_91 : decode cL_law 91 = .ok (.istore 8, 2) := by decide +kernel
theorem dL_law_93 : decode cL_law 93 = .ok (.aload_n 1, 1) := by decide +kernel
theorem dL_law_94 : decode cL_law 94 = .ok (.iconst 5, 1) := by decide +kernel
theorem dL_law_95 : decode cL_law 95 = .ok (.invokevirtual 76, 3) := by decide +kernel
theorem dL_law_98 : decode cL_law 98 = .ok (.istore 9, 2) := by decide +kernel
theorem dL_law_100 : decode cL_law 100 = .ok (.aload_n 1, 1) := by decide +kernel
theorem dL_law_101 : decode cL_law 101 = .ok (.iload 8, 2) := by decide +kernel
theorem dL_law_103 : decode cL_law 103 = .ok (.invokevirtual 120, 3) := by decide +kernel
theorem dL_law_106 : decode cL_law 106 = .ok (.iload 9, 2) := by decide +kernel
theorem dL_law_108 : decode cL_law 108 = .ok (.iconst 1, 1) := by decide +kernel
theorem dL_law_109 : decode cL_law 109 = .ok (.iadd, 1) := by decide +kernel
theorem dL_law_110 : decode cL_law 110 = .ok (.if_icmp .ne 21, 3) := by decide +kernel
theorem dL_law_113 : decode cL_law 113 = .ok (.aload_n 1, 1) := by decide +kernel
theorem dL_law_114 : decode cL_law 114 = .ok (.iload 8, 2) := by decide +kernel
theorem dL_law_116 : decode cL_law 116 = .ok (.iconst 3, 1) := by decide +kernel
theorem dL_law_117 : decode cL_law 117 = .ok (.invokevirtual 95, 3) := by decide +kernel
theorem dL_law_120 : decode cL_law 120 = .ok (.iload 9, 2) := by decide +kernel
theorem dL_law_122 : decode cL_law 122 = .ok (.iconst 1, 1) := by decide +kernel
theorem dL_law_123 : decode cL_law 123 = .ok (.iadd, 1) := by decide +kernel
theorem dL_law_124 : decode cL_law 124 = .ok (.if_icmp .ne 7, 3) := by decide +kernel
theorem dL_law_127 : decode cL_law 127 = .ok (.iconst 1, 1) := by decide +kernel
theorem dL_law_128 : decode cL_law 128 = .ok (.goto 4, 3) := by decide +kernel
theorem dL_law_131 : decode cL_law 131 = .ok (.iconst 0, 1) := by decide +kernel
theorem dL_law_132 : decode cL_law 132 = .ok (.istore 6, 2) := by decide +kernel
theorem dL_law_134 : decode cL_law 134 = .ok (.iinc 7 1, 3) := by decide +kernel
theorem dL_law_137 : decode cL_law 137 = .ok (.goto (-70), 3) := by decide +kernel
theorem dL_law_140 : decode cL_law 140 = .ok (.aload_n 0, 1) := by decide +kernel
theorem dL_law_141 : decode cL_law 141 = .ok (.bipush 29, 2) := by decide +kernel
theorem dL_law_143 : decode cL_law 143 = .ok (.invokestatic 9, 3) := by decide +kernel
theorem dL_law_146 : decode cL_law 146 = .ok (.istore 7, 2) := by decide +kernel
theorem dL_law_148 : decode cL_law 148 = .ok (.iload 7, 2) := by decide +kernel
theorem dL_law_150 : decode cL_law 150 = .ok (.bipush 7, 2) := by decide +kernel
theorem dL_law_152 : decode cL_law 152 = .ok (.irem, 1) := by decide +kernel
theorem dL_law_153 : decode cL_law 153 = .ok (.istore 8, 2) := by decide +kernel
theorem dL_law_155 : decode cL_law 155 = .ok (.iconst 0, 1) := by decide +kernel
theorem dL_law_156 : decode cL_law 156 = .ok (.istore 9, 2) := by decide +kernel
theorem dL_law_158 : decode cL_law 158 = .ok (.iload 9, 2) := by decide +kernel
theorem dL_law_160 : decode cL_law 160 = .ok (.iload 8, 2) := by decide +kernel
theorem dL_law_162 : decode cL_law 162 = .ok (.if_icmp .gt 205, 3) := by decide +kernel
theorem dL_law_165 : decode cL_law 165 = .ok (.iload 6, 2) := by decide +kernel
theorem dL_law_167 : decode cL_law 167 = .ok (.ifCond .eq 200, 3) := by decide +kernel
theorem dL_law_170 : decode cL_law 170 = .ok (.iload 9, 2) := by decide +kernel
theorem dL_law_172 : decode cL_law 172 = .ok (.ifCond .le 48, 3) := by decide +kernel
theorem dL_law_175 : decode cL_law 175 = .ok (.aload 4, 2) := by decide +kernel
theorem dL_law_177 : decode cL_law 177 = .ok (.iconst 0, 1) := by decide +kernel
theorem dL_law_178 : decode cL_law 178 = .ok (.iload 9, 2) := by decide +kernel
theorem dL_law_180 : decode cL_law 180 = .ok (.iastore, 1) := by decide +kernel
theorem dL_law_181 : decode cL_law 181 = .ok (.aload 4, 2) := by decide +kernel
theorem dL_law_183 : decode cL_law 183 = .ok (.iload 9, 2) := by decide +kernel
theorem dL_law_185 : decode cL_law 185 = .ok (.iload 7, 2) := by decide +kernel
theorem dL_law_187 : decode cL_law 187 = .ok (.iconst 3, 1) := by decide +kernel
theorem dL_law_188 : decode cL_law 188 = .ok (.iload 9, 2) := by decide +kernel
theorem dL_law_190 : decode cL_law 190 = .ok (.imul, 1) := by decide +kernel
theorem dL_law_191 : decode cL_law 191 = .ok (.ishr, 1) := by decide +kernel
theorem dL_law_192 : decode cL_law 192 = .ok (.bipush 7, 2) := by decide +kernel
theorem dL_law_194 : decode cL_law 194 = .ok (.iand, 1) := by decide +kernel
theorem dL_law_195 : decode cL_law 195 = .ok (.invokestatic 49, 3) := by decide +kernel
theorem dL_law_198 : decode cL_law 198 = .ok (.iastore, 1) := by decide +kernel
theorem dL_law_199 : decode cL_law 199 = .ok (.aload_n 1, 1) := by decide +kernel
theorem dL_law_200 : decode cL_law 200 = .ok (.aload 4, 2) := by decide +kernel
theorem dL_law_202 : decode cL_law 202 = .ok (.iload 9, 2) := by decide +kernel
theorem dL_law_204 : decode cL_law 204 = .ok (.iaload, 1) := by decide +kernel
theorem dL_law_205 : decode cL_law 205 = .ok (.invokevirtual 52, 3) := by decide +kernel
theorem dL_law_208 : decode cL_law 208 = .ok (.iload 9, 2) := by decide +kernel
theorem dL_law_210 : decode cL_law 210 = .ok (.if_icmp .ne 7, 3) := by decide +kernel
theorem dL_law_213 : decode cL_law 213 = .ok (.iconst 1, 1) := by decide +kernel
theorem dL_law_214 : decode cL_law 214 = .ok (.goto 4, 3) := by decide +kernel
theorem dL_law_217 : decode cL_law 217 = .ok (.iconst 0, 1) := by decide +kernel
theorem dL_law_218 : decode cL_law 218 = .ok (.istore 6, 2) := by decide +kernel
theorem dL_law_220 : decode cL_law 220 = .ok (.iload 6, 2) := by decide +kernel
theorem dL_law_222 : decode cL_law 222 = .ok (.ifCond .eq 26, 3) := by decide +kernel
theorem dL_law_225 : decode cL_law 225 = .ok (.aload_n 1, 1) := by decide +kernel
theorem dL_law_226 : decode cL_law 226 = .ok (.aload_n 2, 1) := by decide +kernel
theorem dL_law_227 : decode cL_law 227 = .ok (.aload_n 3, 1) := by decide +kernel
theorem dL_law_228 : decode cL_law 228 = .ok (.aload 4, 2) := by decide +kernel
theorem dL_law_230 : decode cL_law 230 = .ok (.invokestatic 123, 3) := by decide +kernel
theorem dL_law_233 : decode cL_law 233 = .ok (.ifCond .eq 15, 3) := by decide +kernel
theorem dL_law_236 : decode cL_law 236 = .ok (.aload_n 1, 1) := by decide +kernel
theorem dL_law_237 : decode cL_law 237 = .ok (.aload_n 2, 1) := by decide +kernel
theorem dL_law_238 : decode cL_law 238 = .ok (.invokestatic 127, 3) := by decide +kernel
theorem dL_law_241 : decode cL_law 241 = .ok (.ifCond .eq 7, 3) := by decide +kernel
theorem dL_law_244 : decode cL_law 244 = .ok (.iconst 1, 1) := by decide +kernel
theorem dL_law_245 : decode cL_law 245 = .ok (.goto 4, 3) := by decide +kernel
theorem dL_law_248 : decode cL_law 248 = .ok (.iconst 0, 1) := by decide +kernel
theorem dL_law_249 : decode cL_law 249 = .ok (.istore 6, 2) := by decide +kernel
theorem dL_law_251 : decode cL_law 251 = .ok (.aload 5, 2) := by decide +kernel
theorem dL_law_253 : decode cL_law 253 = .ok (.iload 9, 2) := by decide +kernel
theorem dL_law_255 : decode cL_law 255 = .ok (.aload_n 1, 1) := by decide +kernel
theorem dL_law_256 : decode cL_law 256 = .ok (.iconst 0, 1) := by decide +kernel
theorem dL_law_257 : decode cL_law 257 = .ok (.invokevirtual 70, 3) := by decide +kernel
theorem dL_law_260 : decode cL_law 260 = .ok (.iastore, 1) := by decide +kernel
theorem dL_law_261 : decode cL_law 261 = .ok (.aload 5, 2) := by decide +kernel
theorem dL_law_263 : decode cL_law 263 = .ok (.bipush 8, 2) := by decide +kernel
theorem dL_law_265 : decode cL_law 265 = .ok (.iload 9, 2) := by decide +kernel
theorem dL_law_267 : decode cL_law 267 = .ok (.iadd, 1) := by decide +kernel
theorem dL_law_268 : decode cL_law 268 = .ok (.aload_n 1, 1) := by decide +kernel
theorem dL_law_269 : decode cL_law 269 = .ok (.iconst 1, 1) := by decide +kernel
theorem dL_law_270 : decode cL_law 270 = .ok (.invokevirtual 70, 3) := by decide +kernel
theorem dL_law_273 : decode cL_law 273 = .ok (.iastore, 1) := by decide +kernel
theorem dL_law_274 : decode cL_law 274 = .ok (.iload 6, 2) := by decide +kernel
theorem dL_law_276 : decode cL_law 276 = .ok (.ifCond .eq 82, 3) := by decide +kernel
theorem dL_law_279 : decode cL_law 279 = .ok (.iload 9, 2) := by decide +kernel
theorem dL_law_281 : decode cL_law 281 = .ok (.ifCond .ne 33, 3) := by decide +kernel
theorem dL_law_284 : decode cL_law 284 = .ok (.aload 5, 2) := by decide +kernel
theorem dL_law_286 : decode cL_law 286 = .ok (.iconst 0, 1) := by decide +kernel
theorem dL_law_287 : decode cL_law 287 = .ok (.iaload, 1) := by decide +kernel
theorem dL_law_288 : decode cL_law 288 = .ok (.invokestatic 86, 3) := by decide +kernel
theorem dL_law_291 : decode cL_law 291 = .ok (.aload_n 2, 1) := by decide +kernel
theorem dL_law_292 : decode cL_law 292 = .ok (.iconst 0, 1) := by decide +kernel
theorem dL_law_293 : decode cL_law 293 = .ok (.iaload, 1) := by decide +kernel
theorem dL_law_294 : decode cL_law 294 = .ok (.if_icmp .ne 64, 3) := by decide +kernel
theorem dL_law_297 : decode cL_law 297 = .ok (.aload 5, 2) := by decide +kernel
theorem dL_law_299 : decode cL_law 299 = .ok (.bipush 8, 2) := by decide +kernel
theorem dL_law_301 : decode cL_law 301 = .ok (.iaload, 1) := by decide +kernel
theorem dL_law_302 : decode cL_law 302 = .ok (.invokestatic 86, 3) := by decide +kernel
theorem dL_law_305 : decode cL_law 305 = .ok (.aload_n 2, 1) := by decide +kernel
theorem dL_law_306 : decode cL_law 306 = .ok (.iconst 0, 1) := by decide +kernel
theorem dL_law_307 : decode cL_law 307 = .ok (.iaload, 1) := by decide +kernel
theorem dL_law_308 : decode cL_law 308 = .ok (.if_icmp .ne 50, 3) := by decide +kernel
theorem dL_law_311 : decode cL_law 311 = .ok (.goto 43, 3) := by decide +kernel
theorem dL_law_314 : decode cL_law 314 = .ok (.aload 5, 2) := by decide +kernel
theorem dL_law_316 : decode cL_law 316 = .ok (.iload 9, 2) := by decide +kernel
theorem dL_law_318 : decode cL_law 318 = .ok (.iaload, 1) := by decide +kernel
theorem dL_law_319 : decode cL_law 319 = .ok (.aload 5, 2) := by decide +kernel
theorem dL_law_321 : decode cL_law 321 = .ok (.iload 9, 2) := by decide +kernel
theorem dL_law_323 : decode cL_law 323 = .ok (.iconst 1, 1) := by decide +kernel
theorem dL_law_324 : decode cL_law 324 = .ok (.isub, 1) := by decide +kernel
theorem dL_law_325 : decode cL_law 325 = .ok (.iaload, 1) := by decide +kernel
theorem dL_law_326 : decode cL_law 326 = .ok (.iconst (-1), 1) := by decide +kernel
theorem dL_law_327 : decode cL_law 327 = .ok (.ixor, 1) := by decide +kernel
theorem dL_law_328 : decode cL_law 328 = .ok (.iand, 1) := by decide +kernel
theorem dL_law_329 : decode cL_law 329 = .ok (.ifCond .ne 29, 3) := by decide +kernel
theorem dL_law_332 : decode cL_law 332 = .ok (.aload 5, 2) := by decide +kernel
theorem dL_law_334 : decode cL_law 334 = .ok (.bipush 8, 2) := by decide +kernel
theorem dL_law_336 : decode cL_law 336 = .ok (.iload 9, 2) := by decide +kernel
theorem dL_law_338 : decode cL_law 338 = .ok (.iadd, 1) := by decide +kernel
theorem dL_law_339 : decode cL_law 339 = .ok (.iaload, 1) := by decide +kernel
theorem dL_law_340 : decode cL_law 340 = .ok (.aload 5, 2) := by decide +kernel
theorem dL_law_342 : decode cL_law 342 = .ok (.bipush 7, 2) := by decide +kernel
theorem dL_law_344 : decode cL_law 344 = .ok (.iload 9, 2) := by decide +kernel
theorem dL_law_346 : decode cL_law 346 = .ok (.iadd, 1) := by decide +kernel
theorem dL_law_347 : decode cL_law 347 = .ok (.iaload, 1) := by decide +kernel
theorem dL_law_348 : decode cL_law 348 = .ok (.iconst (-1), 1) := by decide +kernel
theorem dL_law_349 : decode cL_law 349 = .ok (.ixor, 1) := by decide +kernel
theorem dL_law_350 : decode cL_law 350 = .ok (.iand, 1) := by decide +kernel
theorem dL_law_351 : decode cL_law 351 = .ok (.ifCond .ne 7, 3) := by decide +kernel
theorem dL_law_354 : decode cL_law 354 = .ok (.iconst 1, 1) := by decide +kernel
theorem dL_law_355 : decode cL_law 355 = .ok (.goto 4, 3) := by decide +kernel
theorem dL_law_358 : decode cL_law 358 = .ok (.iconst 0, 1) := by decide +kernel
theorem dL_law_359 : decode cL_law 359 = .ok (.istore 6, 2) := by decide +kernel
theorem dL_law_361 : decode cL_law 361 = .ok (.iinc 9 1, 3) := by decide +kernel
theorem dL_law_364 : decode cL_law 364 = .ok (.goto (-206), 3) := by decide +kernel
theorem dL_law_367 : decode cL_law 367 = .ok (.iload 6, 2) := by decide +kernel
theorem dL_law_369 : decode cL_law 369 = .ok (.ifCond .eq 26, 3) := by decide +kernel
theorem dL_law_372 : decode cL_law 372 = .ok (.aload_n 1, 1) := by decide +kernel
theorem dL_law_373 : decode cL_law 373 = .ok (.aload_n 0, 1) := by decide +kernel
theorem dL_law_374 : decode cL_law 374 = .ok (.bipush 28, 2) := by decide +kernel
theorem dL_law_376 : decode cL_law 376 = .ok (.invokestatic 9, 3) := by decide +kernel
theorem dL_law_379 : decode cL_law 379 = .ok (.aload_n 2, 1) := by decide +kernel
theorem dL_law_380 : decode cL_law 380 = .ok (.iconst 0, 1) := by decide +kernel
theorem dL_law_381 : decode cL_law 381 = .ok (.iaload, 1) := by decide +kernel
theorem dL_law_382 : decode cL_law 382 = .ok (.irem, 1) := by decide +kernel
theorem dL_law_383 : decode cL_law 383 = .ok (.aload 4, 2) := by decide +kernel
theorem dL_law_385 : decode cL_law 385 = .ok (.invokestatic 131, 3) := by decide +kernel
theorem dL_law_388 : decode cL_law 388 = .ok (.ifCond .eq 7, 3) := by decide +kernel
theorem dL_law_391 : decode cL_law 391 = .ok (.iconst 1, 1) := by decide +kernel
theorem dL_law_392 : decode cL_law 392 = .ok (.goto 4, 3) := by decide +kernel
theorem dL_law_395 : decode cL_law 395 = .ok (.iconst 0, 1) := by decide +kernel
theorem dL_law_396 : decode cL_law 396 = .ok (.istore 6, 2) := by decide +kernel
theorem dL_law_398 : decode cL_law 398 = .ok (.iload 8, 2) := by decide +kernel
theorem dL_law_400 : decode cL_law 400 = .ok (.istore 9, 2) := by decide +kernel
theorem dL_law_402 : decode cL_law 402 = .ok (.iload 9, 2) := by decide +kernel
theorem dL_law_404 : decode cL_law 404 = .ok (.ifCond .le 62, 3) := by decide +kernel
theorem dL_law_407 : decode cL_law 407 = .ok (.iload 6, 2) := by decide +kernel
theorem dL_law_409 : decode cL_law 409 = .ok (.ifCond .eq 57, 3) := by decide +kernel
theorem dL_law_412 : decode cL_law 412 = .ok (.aload_n 1, 1) := by decide +kernel
theorem dL_law_413 : decode cL_law 413 = .ok (.iconst 0, 1) := by decide +kernel
theorem dL_law_414 : decode cL_law 414 = .ok (.invokevirtual 70, 3) := by decide +kernel
theorem dL_law_417 : decode cL_law 417 = .ok (.aload 5, 2) := by decide +kernel
theorem dL_law_419 : decode cL_law 419 = .ok (.iload 9, 2) := by decide +kernel
theorem dL_law_421 : decode cL_law 421 = .ok (.iaload, 1) := by decide +kernel
theorem dL_law_422 : decode cL_law 422 = .ok (.if_icmp .ne 35, 3) := by decide +kernel
theorem dL_law_425 : decode cL_law 425 = .ok (.aload_n 1, 1) := by decide +kernel
theorem dL_law_426 : decode cL_law 426 = .ok (.iconst 1, 1) := by decide +kernel
theorem dL_law_427 : decode cL_law 427 = .ok (.invokevirtual 70, 3) := by decide +kernel
theorem dL_law_430 : decode cL_law 430 = .ok (.aload 5, 2) := by decide +kernel
theorem dL_law_432 : decode cL_law 432 = .ok (.bipush 8, 2) := by decide +kernel
theorem dL_law_434 : decode cL_law 434 = .ok (.iload 9, 2) := by decide +kernel
theorem dL_law_436 : decode cL_law 436 = .ok (.iadd, 1) := by decide +kernel
theorem dL_law_437 : decode cL_law 437 = .ok (.iaload, 1) := by decide +kernel
theorem dL_law_438 : decode cL_law 438 = .ok (.if_icmp .ne 19, 3) := by decide +kernel
theorem dL_law_441 : decode cL_law 441 = .ok (.aload_n 1, 1) := by decide +kernel
theorem dL_law_442 : decode cL_law 442 = .ok (.invokevirtual 46, 3) := by decide +kernel
theorem dL_law_445 : decode cL_law 445 = .ok (.aload 4, 2) := by decide +kernel
theorem dL_law_447 : decode cL_law 447 = .ok (.iload 9, 2) := by decide +kernel
theorem dL_law_449 : decode cL_law 449 = .ok (.iaload, 1) := by decide +kernel
theorem dL_law_450 : decode cL_law 450 = .ok (.if_icmp .ne 7, 3) := by decide +kernel
theorem dL_law_453 : decode cL_law 453 = .ok (.iconst 1, 1) := by decide +kernel
theorem dL_law_454 : decode cL_law 454 = .ok (.goto 4, 3) := by decide +kernel
theorem dL_law_457 : decode cL_law 457 = .ok (.iconst 0, 1) := by decide +kernel
theorem dL_law_458 : decode cL_law 458 = .ok (.istore 6, 2) := by decide +kernel
theorem dL_law_460 : decode cL_law 460 = .ok (.iinc 9 (-1), 3) := by decide +kernel
theorem dL_law_463 : decode cL_law 463 = .ok (.goto (-61), 3) := by decide +kernel
theorem dL_law_466 : decode cL_law 466 = .ok (.iload 6, 2) := by decide +kernel
theorem dL_law_468 : decode cL_law 468 = .ok (.ifCond .eq 28, 3) := by decide +kernel
theorem dL_law_471 : decode cL_law 471 = .ok (.aload_n 1, 1) := by decide +kernel
theorem dL_law_472 : decode cL_law 472 = .ok (.iconst 0, 1) := by decide +kernel
theorem dL_law_473 : decode cL_law 473 = .ok (.invokevirtual 70, 3) := by decide +kernel
theorem dL_law_476 : decode cL_law 476 = .ok (.aload 5, 2) := by decide +kernel
theorem dL_law_478 : decode cL_law 478 = .ok (.iconst 0, 1) := by decide +kernel
theorem dL_law_479 : decode cL_law 479 = .ok (.iaload, 1) := by decide +kernel
theorem dL_law_480 : decode cL_law 480 = .ok (.if_icmp .ne 16, 3) := by decide +kernel
theorem dL_law_483 : decode cL_law 483 = .ok (.aload_n 1, 1) := by decide +kernel
theorem dL_law_484 : decode cL_law 484 = .ok (.bipush 12, 2) := by decide +kernel
theorem dL_law_486 : decode cL_law 486 = .ok (.invokevirtual 76, 3) := by decide +kernel
theorem dL_law_489 : decode cL_law 489 = .ok (.ifCond .ne 7, 3) := by decide +kernel
theorem dL_law_492 : decode cL_law 492 = .ok (.iconst 1, 1) := by decide +kernel
theorem dL_law_493 : decode cL_law 493 = .ok (.goto 4, 3) := by decide +kernel
theorem dL_law_496 : decode cL_law 496 = .ok (.iconst 0, 1) := by decide +kernel
theorem dL_law_497 : decode cL_law 497 = .ok (.istore 6, 2) := by decide +kernel
theorem dL_law_499 : decode cL_law 499 = .ok (.iconst 0, 1) := by decide +kernel
theorem dL_law_500 : decode cL_law 500 = .ok (.istore 9, 2) := by decide +kernel
theorem dL_law_502 : decode cL_law 502 = .ok (.iload 9, 2) := by decide +kernel
theorem dL_law_504 : decode cL_law 504 = .ok (.aload_n 2, 1) := by decide +kernel
theorem dL_law_505 : decode cL_law 505 = .ok (.iconst 0, 1) := by decide +kernel
theorem dL_law_506 : decode cL_law 506 = .ok (.iaload, 1) := by decide +kernel
theorem dL_law_507 : decode cL_law 507 = .ok (.if_icmp .ge 24, 3) := by decide +kernel
theorem dL_law_510 : decode cL_law 510 = .ok (.aload 5, 2) := by decide +kernel
theorem dL_law_512 : decode cL_law 512 = .ok (.bipush 16, 2) := by decide +kernel
theorem dL_law_514 : decode cL_law 514 = .ok (.iload 9, 2) := by decide +kernel
theorem dL_law_516 : decode cL_law 516 = .ok (.iadd, 1) := by decide +kernel
theorem dL_law_517 : decode cL_law 517 = .ok (.aload_n 1, 1) := by decide +kernel
theorem dL_law_518 : decode cL_law 518 = .ok (.iload 9, 2) := by decide +kernel
theorem dL_law_520 : decode cL_law 520 = .ok (.iconst 2, 1) := by decide +kernel
theorem dL_law_521 : decode cL_law 521 = .ok (.invokevirtual 95, 3) := by decide +kernel
theorem dL_law_524 : decode cL_law 524 = .ok (.iastore, 1) := by decide +kernel
theorem dL_law_525 : decode cL_law 525 = .ok (.iinc 9 1, 3) := by decide +kernel
theorem dL_law_528 : decode cL_law 528 = .ok (.goto (-26), 3) := by decide +kernel
theorem dL_law_531 : decode cL_law 531 = .ok (.aload_n 1, 1) := by decide +kernel
theorem dL_law_532 : decode cL_law 532 = .ok (.iconst 4, 1) := by decide +kernel
theorem dL_law_533 : decode cL_law 533 = .ok (.invokevirtual 76, 3) := by decide +kernel
theorem dL_law_536 : decode cL_law 536 = .ok (.istore 9, 2) := by decide +kernel
theorem dL_law_538 : decode cL_law 538 = .ok (.aload_n 1, 1) := by decide +kernel
theorem dL_law_539 : decode cL_law 539 = .ok (.bipush 6, 2) := by decide +kernel
theorem dL_law_541 : decode cL_law 541 = .ok (.invokevirtual 76, 3) := by decide +kernel
theorem dL_law_544 : decode cL_law 544 = .ok (.istore 10, 2) := by decide +kernel
theorem dL_law_546 : decode cL_law 546 = .ok (.aload_n 1, 1) := by decide +kernel
theorem dL_law_547 : decode cL_law 547 = .ok (.iconst 5, 1) := by decide +kernel
theorem dL_law_548 : decode cL_law 548 = .ok (.invokevirtual 76, 3) := by decide +kernel
theorem dL_law_551 : decode cL_law 551 = .ok (.istore 11, 2) := by decide +kernel
theorem dL_law_553 : decode cL_law 553 = .ok (.aload_n 1, 1) := by decide +kernel
theorem dL_law_554 : decode cL_law 554 = .ok (.bipush 7, 2) := by decide +kernel
theorem dL_law_556 : decode cL_law 556 = .ok (.invokevirtual 76, 3) := by decide +kernel
theorem dL_law_559 : decode cL_law 559 = .ok (.aload_n 1, 1) := by decide +kernel
theorem dL_law_560 : decode cL_law 560 = .ok (.bipush 8, 2) := by decide +kernel
theorem dL_law_562 : decode cL_law 562 = .ok (.invokevirtual 76, 3) := by decide +kernel
theorem dL_law_565 : decode cL_law 565 = .ok (.iadd, 1) := by decide +kernel
theorem dL_law_566 : decode cL_law 566 = .ok (.istore 12, 2) := by decide +kernel
theorem dL_law_568 : decode cL_law 568 = .ok (.iload 6, 2) := by decide +kernel
theorem dL_law_570 : decode cL_law 570 = .ok (.ifCond .eq 71, 3) := by decide +kernel
theorem dL_law_573 : decode cL_law 573 = .ok (.aload_n 1, 1) := by decide +kernel
theorem dL_law_574 : decode cL_law 574 = .ok (.aload_n 2, 1) := by decide +kernel
theorem dL_law_575 : decode cL_law 575 = .ok (.aload_n 3, 1) := by decide +kernel
theorem dL_law_576 : decode cL_law 576 = .ok (.invokestatic 112, 3) := by decide +kernel
theorem dL_law_579 : decode cL_law 579 = .ok (.ifCond .eq 62, 3) := by decide +kernel
theorem dL_law_582 : decode cL_law 582 = .ok (.aload_n 1, 1) := by decide +kernel
theorem dL_law_583 : decode cL_law 583 = .ok (.iconst 4, 1) := by decide +kernel
theorem dL_law_584 : decode cL_law 584 = .ok (.invokevirtual 76, 3) := by decide +kernel
theorem dL_law_587 : decode cL_law 587 = .ok (.iload 9, 2) := by decide +kernel
theorem dL_law_589 : decode cL_law 589 = .ok (.aload_n 2, 1) := by decide +kernel
theorem dL_law_590 : decode cL_law 590 = .ok (.iconst 0, 1) := by decide +kernel
theorem dL_law_591 : decode cL_law 591 = .ok (.iaload, 1) := by decide +kernel
theorem dL_law_592 : decode cL_law 592 = .ok (.iadd, 1) := by decide +kernel
theorem dL_law_593 : decode cL_law 593 = .ok (.if_icmp .ne 48, 3) := by decide +kernel
theorem dL_law_596 : decode cL_law 596 = .ok (.aload_n 1, 1) := by decide +kernel
theorem dL_law_597 : decode cL_law 597 = .ok (.bipush 6, 2) := by decide +kernel
theorem dL_law_599 : decode cL_law 599 = .ok (.invokevirtual 76, 3) := by decide +kernel
theorem dL_law_602 : decode cL_law 602 = .ok (.iload 10, 2) := by decide +kernel
theorem dL_law_604 : decode cL_law 604 = .ok (.iconst 1, 1) := by decide +kernel
theorem dL_law_605 : decode cL_law 605 = .ok (.iadd, 1) := by decide +kernel
theorem dL_law_606 : decode cL_law 606 = .ok (.if_icmp .ne 35, 3) := by decide +kernel
theorem dL_law_609 : decode cL_law 609 = .ok (.aload_n 1, 1) := by decide +kernel
theorem dL_law_610 : decode cL_law 610 = .ok (.iconst 5, 1) := by decide +kernel
theorem dL_law_611 : decode cL_law 611 = .ok (.invokevirtual 76, 3) := by decide +kernel
theorem dL_law_614 : decode cL_law 614 = .ok (.iload 11, 2) := by decide +kernel
theorem dL_law_616 : decode cL_law 616 = .ok (.if_icmp .ne 25, 3) := by decide +kernel
theorem dL_law_619 : decode cL_law 619 = .ok (.aload_n 1, 1) := by decide +kernel
theorem dL_law_620 : decode cL_law 620 = .ok (.bipush 7, 2) := by decide +kernel
theorem dL_law_622 : decode cL_law 622 = .ok (.invokevirtual 76, 3) := by decide +kernel
theorem dL_law_625 : decode cL_law 625 = .ok (.aload_n 1, 1) := by decide +kernel
theorem dL_law_626 : decode cL_law 626 = .ok (.bipush 8, 2) := by decide +kernel
theorem dL_law_628 : decode cL_law 628 = .ok (.invokevirtual 76, 3) := by decide +kernel
theorem dL_law_631 : decode cL_law 631 = .ok (.iadd, 1) := by decide +kernel
theorem dL_law_632 : decode cL_law 632 = .ok (.iload 12, 2) := by decide +kernel
theorem dL_law_634 : decode cL_law 634 = .ok (.if_icmp .ne 7, 3) := by decide +kernel
theorem dL_law_637 : decode cL_law 637 = .ok (.iconst 1, 1) := by decide +kernel
theorem dL_law_638 : decode cL_law 638 = .ok (.goto 4, 3) := by decide +kernel
theorem dL_law_641 : decode cL_law 641 = .ok (.iconst 0, 1) := by decide +kernel
theorem dL_law_642 : decode cL_law 642 = .ok (.istore 6, 2) := by decide +kernel
theorem dL_law_644 : decode cL_law 644 = .ok (.iconst 0, 1) := by decide +kernel
theorem dL_law_645 : decode cL_law 645 = .ok (.istore 13, 2) := by decide +kernel
theorem dL_law_647 : decode cL_law 647 = .ok (.iload 13, 2) := by decide +kernel
theorem dL_law_649 : decode cL_law 649 = .ok (.aload_n 2, 1) := by decide +kernel
theorem dL_law_650 : decode cL_law 650 = .ok (.iconst 0, 1) := by decide +kernel
theorem dL_law_651 : decode cL_law 651 = .ok (.iaload, 1) := by decide +kernel
theorem dL_law_652 : decode cL_law 652 = .ok (.if_icmp .ge 59, 3) := by decide +kernel
theorem dL_law_655 : decode cL_law 655 = .ok (.iload 6, 2) := by decide +kernel
theorem dL_law_657 : decode cL_law 657 = .ok (.ifCond .eq 54, 3) := by decide +kernel
theorem dL_law_660 : decode cL_law 660 = .ok (.aload 5, 2) := by decide +kernel
theorem dL_law_662 : decode cL_law 662 = .ok (.bipush 16, 2) := by decide +kernel
theorem dL_law_664 : decode cL_law 664 = .ok (.iload 13, 2) := by decide +kernel
theorem dL_law_666 : decode cL_law 666 = .ok (.iadd, 1) := by decide +kernel
theorem dL_law_667 : decode cL_law 667 = .ok (.iaload, 1) := by decide +kernel
theorem dL_law_668 : decode cL_law 668 = .ok (.iload 9, 2) := by decide +kernel
theorem dL_law_670 : decode cL_law 670 = .ok (.if_icmp .ge 32, 3) := by decide +kernel
theorem dL_law_673 : decode cL_law 673 = .ok (.aload_n 1, 1) := by decide +kernel
theorem dL_law_674 : decode cL_law 674 = .ok (.iload 13, 2) := by decide +kernel
theorem dL_law_676 : decode cL_law 676 = .ok (.iconst 2, 1) := by decide +kernel
theorem dL_law_677 : decode cL_law 677 = .ok (.invokevirtual 95, 3) := by decide +kernel
theorem dL_law_680 : decode cL_law 680 = .ok (.iload 9, 2) := by decide +kernel
theorem dL_law_682 : decode cL_law 682 = .ok (.iload 13, 2) := by decide +kernel
theorem dL_law_684 : decode cL_law 684 = .ok (.iadd, 1) := by decide +kernel
theorem dL_law_685 : decode cL_law 685 = .ok (.if_icmp .ne 17, 3) := by decide +kernel
theorem dL_law_688 : decode cL_law 688 = .ok (.aload_n 1, 1) := by decide +kernel
theorem dL_law_689 : decode cL_law 689 = .ok (.iload 13, 2) := by decide +kernel
theorem dL_law_691 : decode cL_law 691 = .ok (.iconst 3, 1) := by decide +kernel
theorem dL_law_692 : decode cL_law 692 = .ok (.invokevirtual 95, 3) := by decide +kernel
theorem dL_law_695 : decode cL_law 695 = .ok (.ifCond .ne 7, 3) := by decide +kernel
theorem dL_law_698 : decode cL_law 698 = .ok (.iconst 1, 1) := by decide +kernel
theorem dL_law_699 : decode cL_law 699 = .ok (.goto 4, 3) := by decide +kernel
theorem dL_law_702 : decode cL_law 702 = .ok (.iconst 0, 1) := by decide +kernel
theorem dL_law_703 : decode cL_law 703 = .ok (.istore 6, 2) := by decide +kernel
theorem dL_law_705 : decode cL_law 705 = .ok (.iinc 13 1, 3) := by decide +kernel
theorem dL_law_708 : decode cL_law 708 = .ok (.goto (-61), 3) := by decide +kernel
theorem dL_law_711 : decode cL_law 711 = .ok (.iload 6, 2) := by decide +kernel
theorem dL_law_713 : decode cL_law 713 = .ok (.ireturn, 1) := by decide +kernel
