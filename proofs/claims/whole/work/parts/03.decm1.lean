theorem dX9_fix_64 : decode cX9_fix 64 = .ok (.goto 4, 3) := by decide +kernel
theorem dX9_fix_67 : decode cX9_fix 67 = .ok (.iconst 1, 1) := by decide +kernel
theorem dX9_fix_68 : decode cX9_fix 68 = .ok (.ireturn, 1) := by decide +kernel
theorem dX9_rule_0 : decode cX9_rule 0 = .ok (.iload_n 1, 1) := by decide +kernel
theorem dX9_rule_1 : decode cX9_rule 1 = .ok (.i2l, 1) := by decide +kernel
theorem dX9_rule_2 : decode cX9_rule 2 = .ok (.lconst 0, 1) := by decide +kernel
theorem dX9_rule_3 : decode cX9_rule 3 = .ok (.lconst 1, 1) := by decide +kernel
theorem dX9_rule_4 : decode cX9_rule 4 = .ok (.invokestatic 106, 3) := by decide +kernel
theorem dX9_rule_7 : decode cX9_rule 7 = .ok (.ifCond .ne 6, 3) := by decide +kernel
theorem dX9_rule_10 : decode cX9_rule 10 = .ok (.bipush (-2), 2) := by decide +kernel
theorem dX9_rule_12 : decode cX9_rule 12 = .ok (.ireturn, 1) := by decide +kernel
theorem dX9_rule_13 : decode cX9_rule 13 = .ok (.aload_n 0, 1) := by decide +kernel
theorem dX9_rule_14 : decode cX9_rule 14 = .ok (.getfield 209, 3) := by decide +kernel
theorem dX9_rule_17 : decode cX9_rule 17 = .ok (.istore_n 2, 1) := by decide +kernel
theorem dX9_rule_18 : decode cX9_rule 18 = .ok (.aload_n 0, 1) := by decide +kernel
theorem dX9_rule_19 : decode cX9_rule 19 = .ok (.iload_n 1, 1) := by decide +kernel
theorem dX9_rule_20 : decode cX9_rule 20 = .ok (.putfield 209, 3) := by decide +kernel
theorem dX9_rule_23 : decode cX9_rule 23 = .ok (.aload_n 0, 1) := by decide +kernel
theorem dX9_rule_24 : decode cX9_rule 24 = .ok (.iconst 0, 1) := by decide +kernel
theorem dX9_rule_25 : decode cX9_rule 25 = .ok (.putfield 155, 3) := by decide +kernel
theorem dX9_rule_28 : decode cX9_rule 28 = .ok (.iload_n 2, 1) := by decide +kernel
theorem dX9_rule_29 : decode cX9_rule 29 = .ok (.ireturn, 1) := by decide +kernel
theorem dX9_gapOf_0 : decode cX9_gapOf 0 = .ok (.lconst 0, 1) := by decide +kernel
theorem dX9_gapOf_1 : decode cX9_gapOf 1 = .ok (.lstore 4, 2) := by decide +kernel
theorem dX9_gapOf_3 : decode cX9_gapOf 3 = .ok (.iconst 0, 1) := by decide +kernel
theorem dX9_gapOf_4 : decode cX9_gapOf 4 = .ok (.istore 6, 2) := by decide +kernel
theorem dX9_gapOf_6 : decode cX9_gapOf 6 = .ok (.iload 6, 2) := by decide +kernel
theorem dX9_gapOf_8 : decode cX9_gapOf 8 = .ok (.bipush 6, 2) := by decide +kernel
theorem dX9_gapOf_10 : decode cX9_gapOf 10 = .ok (.if_icmp .ge 48, 3) := by decide +kernel
theorem dX9_gapOf_13 : decode cX9_gapOf 13 = .ok (.aload_n 0, 1) := by decide +kernel
theorem dX9_gapOf_14 : decode cX9_gapOf 14 = .ok (.getfield 52, 3) := by decide +kernel
theorem dX9_gapOf_17 : decode cX9_gapOf 17 = .ok (.iload_n 1, 1) := by decide +kernel
theorem dX9_gapOf_18 : decode cX9_gapOf 18 = .ok (.iload_n 2, 1) := by decide +kernel
theorem dX9_gapOf_19 : decode cX9_gapOf 19 = .ok (.iload 6, 2) := by decide +kernel
theorem dX9_gapOf_21 : decode cX9_gapOf 21 = .ok (.iload_n 3, 1) := by decide +kernel
theorem dX9_gapOf_22 : decode cX9_gapOf 22 = .ok (.invokestatic 124, 3) := by decide +kernel
theorem dX9_gapOf_25 : decode cX9_gapOf 25 = .ok (.laload, 1) := by decide +kernel
theorem dX9_gapOf_26 : decode cX9_gapOf 26 = .ok (.lstore 7, 2) := by decide +kernel
theorem dX9_gapOf_28 : decode cX9_gapOf 28 = .ok (.lload 4, 2) := by decide +kernel
theorem dX9_gapOf_30 : decode cX9_gapOf 30 = .ok (.aload_n 0, 1) := by decide +kernel
theorem dX9_gapOf_31 : decode cX9_gapOf 31 = .ok (.getfield 40, 3) := by decide +kernel
theorem dX9_gapOf_34 : decode cX9_gapOf 34 = .ok (.iload 6, 2) := by decide +kernel
theorem dX9_gapOf_36 : decode cX9_gapOf 36 = .ok (.iaload, 1) := by decide +kernel
theorem dX9_gapOf_37 : decode cX9_gapOf 37 = .ok (.iconst 1, 1) := by decide +kernel
theorem dX9_gapOf_38 : decode cX9_gapOf 38 = .ok (.if_icmp .ne 8, 3) := by decide +kernel
theorem dX9_gapOf_41 : decode cX9_gapOf 41 = .ok (.lload 7, 2) := by decide +kernel
theorem dX9_gapOf_43 : decode cX9_gapOf 43 = .ok (.goto 6, 3) := by decide +kernel
theorem dX9_gapOf_46 : decode cX9_gapOf 46 = .ok (.lload 7, 2) := by decide +kernel
theorem dX9_gapOf_48 : decode cX9_gapOf 48 = .ok (.lneg, 1) := by decide +kernel
theorem dX9_gapOf_49 : decode cX9_gapOf 49 = .ok (.ladd, 1) := by decide +kernel
theorem dX9_gapOf_50 : decode cX9_gapOf 50 = .ok (.lstore 4, 2) := by decide +kernel
theorem dX9_gapOf_52 : decode cX9_gapOf 52 = .ok (.iinc 6 1, 3) := by decide +kernel
theorem dX9_gapOf_55 : decode cX9_gapOf 55 = .ok (.goto (-49), 3) := by decide +kernel
theorem dX9_gapOf_58 : decode cX9_gapOf 58 = .ok (.lload 4, 2) := by decide +kernel
theorem dX9_gapOf_60 : decode cX9_gapOf 60 = .ok (.lreturn, 1) := by decide +kernel
theorem dX9_costOf_0 : decode cX9_costOf 0 = .ok (.iconst 1, 1) := by decide +kernel
theorem dX9_costOf_1 : decode cX9_costOf 1 = .ok (.aload_n 0, 1) := by decide +kernel
theorem dX9_costOf_2 : decode cX9_costOf 2 = .ok (.getfield 37, 3) := by decide +kernel
theorem dX9_costOf_5 : decode cX9_costOf 5 = .ok (.iload_n 1, 1) := by decide +kernel
theorem dX9_costOf_6 : decode cX9_costOf 6 = .ok (.iload_n 2, 1) := by decide +kernel
theorem dX9_costOf_7 : decode cX9_costOf 7 = .ok (.iload_n 3, 1) := by decide +kernel
theorem dX9_costOf_8 : decode cX9_costOf 8 = .ok (.iload 4, 2) := by decide +kernel
theorem dX9_costOf_10 : decode cX9_costOf 10 = .ok (.invokestatic 124, 3) := by decide +kernel
theorem dX9_costOf_13 : decode cX9_costOf 13 = .ok (.iaload, 1) := by decide +kernel
theorem dX9_costOf_14 : decode cX9_costOf 14 = .ok (.iadd, 1) := by decide +kernel
theorem dX9_costOf_15 : decode cX9_costOf 15 = .ok (.aload_n 0, 1) := by decide +kernel
theorem dX9_costOf_16 : decode cX9_costOf 16 = .ok (.getfield 37, 3) := by decide +kernel
theorem dX9_costOf_19 : decode cX9_costOf 19 = .ok (.iload_n 1, 1) := by decide +kernel
theorem dX9_costOf_20 : decode cX9_costOf 20 = .ok (.iload_n 2, 1) := by decide +kernel
theorem dX9_costOf_21 : decode cX9_costOf 21 = .ok (.iload_n 3, 1) := by decide +kernel
theorem dX9_costOf_22 : decode cX9_costOf 22 = .ok (.iload 4, 2) := by decide +kernel
theorem dX9_costOf_24 : decode cX9_costOf 24 = .ok (.iconst 4, 1) := by decide +kernel
theorem dX9_costOf_25 : decode cX9_costOf 25 = .ok (.idiv, 1) := by decide +kernel
theorem dX9_costOf_26 : decode cX9_costOf 26 = .ok (.invokestatic 130, 3) := by decide +kernel
theorem dX9_costOf_29 : decode cX9_costOf 29 = .ok (.iaload, 1) := by decide +kernel
theorem dX9_costOf_30 : decode cX9_costOf 30 = .ok (.iadd, 1) := by decide +kernel
theorem dX9_costOf_31 : decode cX9_costOf 31 = .ok (.ireturn, 1) := by decide +kernel
theorem dX9_closes_0 : decode cX9_closes 0 = .ok (.bipush 48, 2) := by decide +kernel
theorem dX9_closes_2 : decode cX9_closes 2 = .ok (.iload_n 1, 1) := by decide +kernel
theorem dX9_closes_3 : decode cX9_closes 3 = .ok (.imul, 1) := by decide +kernel
theorem dX9_closes_4 : decode cX9_closes 4 = .ok (.bipush 12, 2) := by decide +kernel
theorem dX9_closes_6 : decode cX9_closes 6 = .ok (.iload_n 2, 1) := by decide +kernel
theorem dX9_closes_7 : decode cX9_closes 7 = .ok (.imul, 1) := by decide +kernel
theorem dX9_closes_8 : decode cX9_closes 8 = .ok (.iadd, 1) := by decide +kernel
theorem dX9_closes_9 : decode cX9_closes 9 = .ok (.iload_n 3, 1) := by decide +kernel
theorem dX9_closes_10 : decode cX9_closes 10 = .ok (.iadd, 1) := by decide +kernel
theorem dX9_closes_11 : decode cX9_closes 11 = .ok (.istore 4, 2) := by decide +kernel
theorem dX9_closes_13 : decode cX9_closes 13 = .ok (.aload_n 0, 1) := by decide +kernel
theorem dX9_closes_14 : decode cX9_closes 14 = .ok (.iload_n 1, 1) := by decide +kernel
theorem dX9_closes_15 : decode cX9_closes 15 = .ok (.iload_n 2, 1) := by decide +kernel
theorem dX9_closes_16 : decode cX9_closes 16 = .ok (.iload_n 3, 1) := by decide +kernel
theorem dX9_closes_17 : decode cX9_closes 17 = .ok (.invokevirtual 212, 3) := by decide +kernel
theorem dX9_closes_20 : decode cX9_closes 20 = .ok (.lstore 5, 2) := by decide +kernel
theorem dX9_closes_22 : decode cX9_closes 22 = .ok (.iconst (-1), 1) := by decide +kernel
theorem dX9_closes_23 : decode cX9_closes 23 = .ok (.istore 7, 2) := by decide +kernel
theorem dX9_closes_25 : decode cX9_closes 25 = .ok (.iconst 0, 1) := by decide +kernel
theorem dX9_closes_26 : decode cX9_closes 26 = .ok (.istore 8, 2) := by decide +kernel
theorem dX9_closes_28 : decode cX9_closes 28 = .ok (.iload 8, 2) := by decide +kernel
theorem dX9_closes_30 : decode cX9_closes 30 = .ok (.bipush 6, 2) := by decide +kernel
theorem dX9_closes_32 : decode cX9_closes 32 = .ok (.if_icmp .ge 119, 3) := by decide +kernel
theorem dX9_closes_35 : decode cX9_closes 35 = .ok (.aload_n 0, 1) := by decide +kernel
theorem dX9_closes_36 : decode cX9_closes 36 = .ok (.getfield 55, 3) := by decide +kernel
theorem dX9_closes_39 : decode cX9_closes 39 = .ok (.bipush 24, 2) := by decide +kernel
theorem dX9_closes_41 : decode cX9_closes 41 = .ok (.iload_n 1, 1) := by decide +kernel
theorem dX9_closes_42 : decode cX9_closes 42 = .ok (.imul, 1) := by decide +kernel
theorem dX9_closes_43 : decode cX9_closes 43 = .ok (.bipush 6, 2) := by decide +kernel
theorem dX9_closes_45 : decode cX9_closes 45 = .ok (.iload_n 2, 1) := by decide +kernel
theorem dX9_closes_46 : decode cX9_closes 46 = .ok (.imul, 1) := by decide +kernel
theorem dX9_closes_47 : decode cX9_closes 47 = .ok (.iadd, 1) := by decide +kernel
theorem dX9_closes_48 : decode cX9_closes 48 = .ok (.iload 8, 2) := by decide +kernel
theorem dX9_closes_50 : decode cX9_closes 50 = .ok (.iadd, 1) := by decide +kernel
theorem dX9_closes_51 : decode cX9_closes 51 = .ok (.baload, 1) := by decide +kernel
theorem dX9_closes_52 : decode cX9_closes 52 = .ok (.ifCond .ne 7, 3) := by decide +kernel
theorem dX9_closes_55 : decode cX9_closes 55 = .ok (.iconst 1, 1) := by decide +kernel
theorem dX9_closes_56 : decode cX9_closes 56 = .ok (.goto 4, 3) := by decide +kernel
theorem dX9_closes_59 : decode cX9_closes 59 = .ok (.iconst 0, 1) := by decide +kernel
theorem dX9_closes_60 : decode cX9_closes 60 = .ok (.istore 9, 2) := by decide +kernel
theorem dX9_closes_62 : decode cX9_closes 62 = .ok (.iload 9, 2) := by decide +kernel
theorem dX9_closes_64 : decode cX9_closes 64 = .ok (.ifCond .eq 34, 3) := by decide +kernel
theorem dX9_closes_67 : decode cX9_closes 67 = .ok (.iload 7, 2) := by decide +kernel
theorem dX9_closes_69 : decode cX9_closes 69 = .ok (.iconst (-1), 1) := by decide +kernel
theorem dX9_closes_70 : decode cX9_closes 70 = .ok (.if_icmp .eq 24, 3) := by decide +kernel
theorem dX9_closes_73 : decode cX9_closes 73 = .ok (.aload_n 0, 1) := by decide +kernel
theorem dX9_closes_74 : decode cX9_closes 74 = .ok (.iload_n 1, 1) := by decide +kernel
theorem dX9_closes_75 : decode cX9_closes 75 = .ok (.iload_n 2, 1) := by decide +kernel
theorem dX9_closes_76 : decode cX9_closes 76 = .ok (.iload 8, 2) := by decide +kernel
theorem dX9_closes_78 : decode cX9_closes 78 = .ok (.iload_n 3, 1) := by decide +kernel
theorem dX9_closes_79 : decode cX9_closes 79 = .ok (.invokevirtual 215, 3) := by decide +kernel
theorem dX9_closes_82 : decode cX9_closes 82 = .ok (.aload_n 0, 1) := by decide +kernel
theorem dX9_closes_83 : decode cX9_closes 83 = .ok (.iload_n 1, 1) := by decide +kernel
theorem dX9_closes_84 : decode cX9_closes 84 = .ok (.iload_n 2, 1) := by decide +kernel
theorem dX9_closes_85 : decode cX9_closes 85 = .ok (.iload 7, 2) := by decide +kernel
theorem dX9_closes_87 : decode cX9_closes 87 = .ok (.iload_n 3, 1) := by decide +kernel
theorem dX9_closes_88 : decode cX9_closes 88 = .ok (.invokevirtual 215, 3) := by decide +kernel
theorem dX9_closes_91 : decode cX9_closes 91 = .ok (.if_icmp .ge 7, 3) := by decide +kernel
theorem dX9_closes_94 : decode cX9_closes 94 = .ok (.iconst 1, 1) := by decide +kernel
theorem dX9_closes_95 : decode cX9_closes 95 = .ok (.goto 4, 3) := by decide +kernel
theorem dX9_closes_98 : decode cX9_closes 98 = .ok (.iconst 0, 1) := by decide +kernel
theorem dX9_closes_99 : decode cX9_closes 99 = .ok (.istore 10, 2) := by decide +kernel
theorem dX9_closes_101 : decode cX9_closes 101 = .ok (.iload 10, 2) := by decide +kernel
theorem dX9_closes_103 : decode cX9_closes 103 = .ok (.ifCond .eq 8, 3) := by decide +kernel
theorem dX9_closes_106 : decode cX9_closes 106 = .ok (.iload 8, 2) := by decide +kernel
theorem dX9_closes_108 : decode cX9_closes 108 = .ok (.goto 5, 3) := by decide +kernel
theorem dX9_closes_111 : decode cX9_closes 111 = .ok (.iload 7, 2) := by decide +kernel
theorem dX9_closes_113 : decode cX9_closes 113 = .ok (.istore 7, 2) := by decide +kernel
theorem dX9_closes_115 : decode cX9_closes 115 = .ok (.aload_n 0, 1) := by decide +kernel
theorem dX9_closes_116 : decode cX9_closes 116 = .ok (.getfield 43, 3) := by decide +kernel
theorem dX9_closes_119 : decode cX9_closes 119 = .ok (.iload 8, 2) := by decide +kernel
theorem dX9_closes_121 : decode cX9_closes 121 = .ok (.iload 9, 2) := by decide +kernel
theorem dX9_closes_123 : decode cX9_closes 123 = .ok (.ifCond .eq 20, 3) := by decide +kernel
theorem dX9_closes_126 : decode cX9_closes 126 = .ok (.ldc2_w 218, 3) := by decide +kernel
theorem dX9_closes_129 : decode cX9_closes 129 = .ok (.aload_n 0, 1) := by decide +kernel
theorem dX9_closes_130 : decode cX9_closes 130 = .ok (.iload_n 1, 1) := by decide +kernel
theorem dX9_closes_131 : decode cX9_closes 131 = .ok (.iload_n 2, 1) := by decide +kernel
theorem dX9_closes_132 : decode cX9_closes 132 = .ok (.iload 8, 2) := by decide +kernel
theorem dX9_closes_134 : decode cX9_closes 134 = .ok (.iload_n 3, 1) := by decide +kernel
theorem dX9_closes_135 : decode cX9_closes 135 = .ok (.invokevirtual 215, 3) := by decide +kernel
theorem dX9_closes_138 : decode cX9_closes 138 = .ok (.i2l, 1) := by decide +kernel
theorem dX9_closes_139 : decode cX9_closes 139 = .ok (.ldiv, 1) := by decide +kernel
theorem dX9_closes_140 : decode cX9_closes 140 = .ok (.goto 4, 3) := by decide +kernel
theorem dX9_closes_143 : decode cX9_closes 143 = .ok (.lconst 0, 1) := by decide +kernel
theorem dX9_closes_144 : decode cX9_closes 144 = .ok (.lastore, 1) := by decide +kernel
theorem dX9_closes_145 : decode cX9_closes 145 = .ok (.iinc 8 1, 3) := by decide +kernel
theorem dX9_closes_148 : decode cX9_closes 148 = .ok (.goto (-120), 3) := by decide +kernel
theorem dX9_closes_151 : decode cX9_closes 151 = .ok (.aload_n 0, 1) := by decide +kernel
theorem dX9_closes_152 : decode cX9_closes 152 = .ok (.getfield 64, 3) := by decide +kernel
theorem dX9_closes_155 : decode cX9_closes 155 = .ok (.iload 4, 2) := by decide +kernel
theorem dX9_closes_157 : decode cX9_closes 157 = .ok (.iload 7, 2) := by decide +kernel
theorem dX9_closes_159 : decode cX9_closes 159 = .ok (.iconst (-1), 1) := by decide +kernel
theorem dX9_closes_160 : decode cX9_closes 160 = .ok (.if_icmp .ne 14, 3) := by decide +kernel
theorem dX9_closes_163 : decode cX9_closes 163 = .ok (.lload 5, 2) := by decide +kernel
theorem dX9_closes_165 : decode cX9_closes 165 = .ok (.lconst 0, 1) := by decide +kernel
theorem dX9_closes_166 : decode cX9_closes 166 = .ok (.lcmp, 1) := by decide +kernel
theorem dX9_closes_167 : decode cX9_closes 167 = .ok (.ifCond .eq 7, 3) := by decide +kernel
theorem dX9_closes_170 : decode cX9_closes 170 = .ok (.iconst 1, 1) := by decide +kernel
theorem dX9_closes_171 : decode cX9_closes 171 = .ok (.goto 4, 3) := by decide +kernel
theorem dX9_closes_174 : decode cX9_closes 174 = .ok (.iconst 0, 1) := by decide +kernel
theorem dX9_closes_175 : decode cX9_closes 175 = .ok (.bastore, 1) := by decide +kernel
theorem dX9_closes_176 : decode cX9_closes 176 = .ok (.aload_n 0, 1) := by decide +kernel
theorem dX9_closes_177 : decode cX9_closes 177 = .ok (.getfield 61, 3) := by decide +kernel
theorem dX9_closes_180 : decode cX9_closes 180 = .ok (.iload 4, 2) := by decide +kernel
theorem dX9_closes_182 : decode cX9_closes 182 = .ok (.lconst 0, 1) := by decide +kernel
theorem dX9_closes_183 : decode cX9_closes 183 = .ok (.lastore, 1) := by decide +kernel
theorem dX9_closes_184 : decode cX9_closes 184 = .ok (.iload 7, 2) := by decide +kernel
theorem dX9_closes_186 : decode cX9_closes 186 = .ok (.iconst (-1), 1) := by decide +kernel
theorem dX9_closes_187 : decode cX9_closes 187 = .ok (.if_icmp .eq 11, 3) := by decide +kernel
theorem dX9_closes_190 : decode cX9_closes 190 = .ok (.aload_n 0, 1) := by decide +kernel
theorem dX9_closes_191 : decode cX9_closes 191 = .ok (.lload 5, 2) := by decide +kernel
theorem dX9_closes_193 : decode cX9_closes 193 = .ok (.bipush 6, 2) := by decide +kernel
theorem dX9_closes_195 : decode cX9_closes 195 = .ok (.invokevirtual 203, 3) := by decide +kernel
theorem dX9_closes_198 : decode cX9_closes 198 = .ok (.iconst 0, 1) := by decide +kernel
theorem dX9_closes_199 : decode cX9_closes 199 = .ok (.istore 8, 2) := by decide +kernel
theorem dX9_closes_201 : decode cX9_closes 201 = .ok (.iload 8, 2) := by decide +kernel
theorem dX9_closes_203 : decode cX9_closes 203 = .ok (.bipush 6, 2) := by decide +kernel
theorem dX9_closes_205 : decode cX9_closes 205 = .ok (.if_icmp .ge 118, 3) := by decide +kernel
theorem dX9_closes_208 : decode cX9_closes 208 = .ok (.iload 7, 2) := by decide +kernel
theorem dX9_closes_210 : decode cX9_closes 210 = .ok (.iconst (-1), 1) := by decide +kernel
theorem dX9_closes_211 : decode cX9_closes 211 = .ok (.if_icmp .ne 7, 3) := by decide +kernel
theorem dX9_closes_214 : decode cX9_closes 214 = .ok (.lconst 0, 1) := by decide +kernel
theorem dX9_closes_215 : decode cX9_closes 215 = .ok (.goto 34, 3) := by decide +kernel
theorem dX9_closes_218 : decode cX9_closes 218 = .ok (.aload_n 0, 1) := by decide +kernel
theorem dX9_closes_219 : decode cX9_closes 219 = .ok (.getfield 209, 3) := by decide +kernel
theorem dX9_closes_222 : decode cX9_closes 222 = .ok (.iconst 1, 1) := by decide +kernel
theorem dX9_closes_223 : decode cX9_closes 223 = .ok (.if_icmp .ne 13, 3) := by decide +kernel
theorem dX9_closes_226 : decode cX9_closes 226 = .ok (.aload_n 0, 1) := by decide +kernel
theorem dX9_closes_227 : decode cX9_closes 227 = .ok (.getfield 46, 3) := by decide +kernel
theorem dX9_closes_230 : decode cX9_closes 230 = .ok (.iload 8, 2) := by decide +kernel
theorem dX9_closes_232 : decode cX9_closes 232 = .ok (.laload, 1) := by decide +kernel
theorem dX9_closes_233 : decode cX9_closes 233 = .ok (.goto 16, 3) := by decide +kernel
theorem dX9_closes_236 : decode cX9_closes 236 = .ok (.iload 8, 2) := by decide +kernel
theorem dX9_closes_238 : decode cX9_closes 238 = .ok (.iload 7, 2) := by decide +kernel
theorem dX9_closes_240 : decode cX9_closes 240 = .ok (.if_icmp .ne 8, 3) := by decide +kernel
theorem dX9_closes_243 : decode cX9_closes 243 = .ok (.lload 5, 2) := by decide +kernel
theorem dX9_closes_245 : decode cX9_closes 245 = .ok (.goto 4, 3) := by decide +kernel
theorem dX9_closes_248 : decode cX9_closes 248 = .ok (.lconst 0, 1) := by decide +kernel
theorem dX9_closes_249 : decode cX9_closes 249 = .ok (.lstore 9, 2) := by decide +kernel
theorem dX9_closes_251 : decode cX9_closes 251 = .ok (.iload_n 1, 1) := by decide +kernel
theorem dX9_closes_252 : decode cX9_closes 252 = .ok (.iload_n 2, 1) := by decide +kernel
theorem dX9_closes_253 : decode cX9_closes 253 = .ok (.iload 8, 2) := by decide +kernel
theorem dX9_closes_255 : decode cX9_closes 255 = .ok (.iload_n 3, 1) := by decide +kernel
theorem dX9_closes_256 : decode cX9_closes 256 = .ok (.invokestatic 124, 3) := by decide +kernel
theorem dX9_closes_259 : decode cX9_closes 259 = .ok (.istore 11, 2) := by decide +kernel
theorem dX9_closes_261 : decode cX9_closes 261 = .ok (.aload_n 0, 1) := by decide +kernel
theorem dX9_closes_262 : decode cX9_closes 262 = .ok (.getfield 58, 3) := by decide +kernel
theorem dX9_closes_265 : decode cX9_closes 265 = .ok (.iload 11, 2) := by decide +kernel
theorem dX9_closes_267 : decode cX9_closes 267 = .ok (.aload_n 0, 1) := by decide +kernel
theorem dX9_closes_268 : decode cX9_closes 268 = .ok (.getfield 40, 3) := by decide +kernel
theorem dX9_closes_271 : decode cX9_closes 271 = .ok (.iload 8, 2) := by decide +kernel
theorem dX9_closes_273 : decode cX9_closes 273 = .ok (.iaload, 1) := by decide +kernel
theorem dX9_closes_274 : decode cX9_closes 274 = .ok (.iconst 1, 1) := by decide +kernel
theorem dX9_closes_275 : decode cX9_closes 275 = .ok (.if_icmp .ne 16, 3) := by decide +kernel
theorem dX9_closes_278 : decode cX9_closes 278 = .ok (.aload_n 0, 1) := by decide +kernel
theorem dX9_closes_279 : decode cX9_closes 279 = .ok (.getfield 52, 3) := by decide +kernel
theorem dX9_closes_282 : decode cX9_closes 282 = .ok (.iload 11, 2) := by decide +kernel
theorem dX9_closes_284 : decode cX9_closes 284 = .ok (.laload, 1) := by decide +kernel
theorem dX9_closes_285 : decode cX9_closes 285 = .ok (.lload 9, 2) := by decide +kernel
theorem dX9_closes_287 : decode cX9_closes 287 = .ok (.lsub, 1) := by decide +kernel
theorem dX9_closes_288 : decode cX9_closes 288 = .ok (.goto 13, 3) := by decide +kernel
theorem dX9_closes_291 : decode cX9_closes 291 = .ok (.aload_n 0, 1) := by decide +kernel
theorem dX9_closes_292 : decode cX9_closes 292 = .ok (.getfield 52, 3) := by decide +kernel
theorem dX9_closes_295 : decode cX9_closes 295 = .ok (.iload 11, 2) := by decide +kernel
theorem dX9_closes_297 : decode cX9_closes 297 = .ok (.laload, 1) := by decide +kernel
theorem dX9_closes_298 : decode cX9_closes 298 = .ok (.lload 9, 2) := by decide +kernel
theorem dX9_closes_300 : decode cX9_closes 300 = .ok (.ladd, 1) := by decide +kernel
theorem dX9_closes_301 : decode cX9_closes 301 = .ok (.lastore, 1) := by decide +kernel
theorem dX9_closes_302 : decode cX9_closes 302 = .ok (.aload_n 0, 1) := by decide +kernel
theorem dX9_closes_303 : decode cX9_closes 303 = .ok (.getfield 61, 3) := by decide +kernel
theorem dX9_closes_306 : decode cX9_closes 306 = .ok (.iload 4, 2) := by decide +kernel
theorem dX9_closes_308 : decode cX9_closes 308 = .ok (.dup2, 1) := by decide +kernel
theorem dX9_closes_309 : decode cX9_closes 309 = .ok (.laload, 1) := by decide +kernel
theorem dX9_closes_310 : decode cX9_closes 310 = .ok (.lload 9, 2) := by decide +kernel
theorem dX9_closes_312 : decode cX9_closes 312 = .ok (.invokestatic 205, 3) := by decide +kernel
theorem dX9_closes_315 : decode cX9_closes 315 = .ok (.ladd, 1) := by decide +kernel
theorem dX9_closes_316 : decode cX9_closes 316 = .ok (.lastore, 1) := by decide +kernel
theorem dX9_closes_317 : decode cX9_closes 317 = .ok (.iinc 8 1, 3) := by decide +kernel
theorem dX9_closes_320 : decode cX9_closes 320 = .ok (.goto (-119), 3) := by decide +kernel
theorem dX9_closes_323 : decode cX9_closes 323 = .ok (.return_, 1) := by decide +kernel
theorem dX9_isPlace_0 : decode cX9_isPlace 0 = .ok (.iload_n 0, 1) := by decide +kernel
theorem dX9_isPlace_1 : decode cX9_isPlace 1 = .ok (.i2l, 1) := by decide +kernel
theorem dX9_isPlace_2 : decode cX9_isPlace 2 = .ok (.lconst 0, 1) := by decide +kernel
theorem dX9_isPlace_3 : decode cX9_isPlace 3 = .ok (.lconst 1, 1) := by decide +kernel
theorem dX9_isPlace_4 : decode cX9_isPlace 4 = .ok (.invokestatic 106, 3) := by decide +kernel
theorem dX9_isPlace_7 : decode cX9_isPlace 7 = .ok (.ifCond .eq 31, 3) := by decide +kernel
theorem dX9_isPlace_10 : decode cX9_isPlace 10 = .ok (.iload_n 1, 1) := by decide +kernel
theorem dX9_isPlace_11 : decode cX9_isPlace 11 = .ok (.i2l, 1) := by decide +kernel
theorem dX9_isPlace_12 : decode cX9_isPlace 12 = .ok (.lconst 0, 1) := by decide +kernel
theorem dX9_isPlace_13 : decode cX9_isPlace 13 = .ok (.ldc2_w 110, 3) := by decide +kernel
theorem dX9_isPlace_16 : decode cX9_isPlace 16 = .ok (.invokestatic 106, 3) := by decide +kernel
theorem dX9_isPlace_19 : decode cX9_isPlace 19 = .ok (.ifCond .eq 19, 3) := by decide +kernel
theorem dX9_isPlace_22 : decode cX9_isPlace 22 = .ok (.iload_n 2, 1) := by decide +kernel
theorem dX9_isPlace_23 : decode cX9_isPlace 23 = .ok (.i2l, 1) := by decide +kernel
theorem dX9_isPlace_24 : decode cX9_isPlace 24 = .ok (.lconst 0, 1) := by decide +kernel
theorem dX9_isPlace_25 : decode cX9_isPlace 25 = .ok (.ldc2_w 122, 3) := by decide +kernel
theorem dX9_isPlace_28 : decode cX9_isPlace 28 = .ok (.invokestatic 106, 3) := by decide +kernel
theorem dX9_isPlace_31 : decode cX9_isPlace 31 = .ok (.ifCond .eq 7, 3) := by decide +kernel
theorem dX9_isPlace_34 : decode cX9_isPlace 34 = .ok (.iconst 1, 1) := by decide +kernel
theorem dX9_isPlace_35 : decode cX9_isPlace 35 = .ok (.goto 4, 3) := by decide +kernel
theorem dX9_isPlace_38 : decode cX9_isPlace 38 = .ok (.iconst 0, 1) := by decide +kernel
theorem dX9_isPlace_39 : decode cX9_isPlace 39 = .ok (.ireturn, 1) := by decide +kernel
theorem dX9_gap_0 : decode cX9_gap 0 = .ok (.iload_n 1, 1) := by decide +kernel
theorem dX9_gap_1 : decode cX9_gap 1 = .ok (.iload_n 2, 1) := by decide +kernel
theorem dX9_gap_2 : decode cX9_gap 2 = .ok (.iload_n 3, 1) := by decide +kernel
theorem dX9_gap_3 : decode cX9_gap 3 = .ok (.invokestatic 220, 3) := by decide +kernel
theorem dX9_gap_6 : decode cX9_gap 6 = .ok (.ifCond .ne 7, 3) := by decide +kernel
theorem dX9_gap_9 : decode cX9_gap 9 = .ok (.ldc2_w 189, 3) := by decide +kernel
theorem dX9_gap_12 : decode cX9_gap 12 = .ok (.lreturn, 1) := by decide +kernel
theorem dX9_gap_13 : decode cX9_gap 13 = .ok (.aload_n 0, 1) := by decide +kernel
theorem dX9_gap_14 : decode cX9_gap 14 = .ok (.invokevirtual 186, 3) := by decide +kernel
theorem dX9_gap_17 : decode cX9_gap 17 = .ok (.aload_n 0, 1) := by decide +kernel
theorem dX9_gap_18 : decode cX9_gap 18 = .ok (.iload_n 1, 1) := by decide +kernel
theorem dX9_gap_19 : decode cX9_gap 19 = .ok (.iload_n 2, 1) := by decide +kernel
theorem dX9_gap_20 : decode cX9_gap 20 = .ok (.iload_n 3, 1) := by decide +kernel
theorem dX9_gap_21 : decode cX9_gap 21 = .ok (.invokevirtual 212, 3) := by decide +kernel
theorem dX9_gap_24 : decode cX9_gap 24 = .ok (.lreturn, 1) := by decide +kernel
theorem dX9_closed_0 : decode cX9_closed 0 = .ok (.iload_n 1, 1) := by decide +kernel
theorem dX9_closed_1 : decode cX9_closed 1 = .ok (.invokestatic 150, 3) := by decide +kernel
theorem dX9_closed_4 : decode cX9_closed 4 = .ok (.ifCond .ne 7, 3) := by decide +kernel
theorem dX9_closed_7 : decode cX9_closed 7 = .ok (.ldc2_w 189, 3) := by decide +kernel
theorem dX9_closed_10 : decode cX9_closed 10 = .ok (.lreturn, 1) := by decide +kernel
theorem dX9_closed_11 : decode cX9_closed 11 = .ok (.aload_n 0, 1) := by decide +kernel
theorem dX9_closed_12 : decode cX9_closed 12 = .ok (.invokevirtual 186, 3) := by decide +kernel
theorem dX9_closed_15 : decode cX9_closed 15 = .ok (.aload_n 0, 1) := by decide +kernel
theorem dX9_closed_16 : decode cX9_closed 16 = .ok (.getfield 58, 3) := by decide +kernel
theorem dX9_closed_19 : decode cX9_closed 19 = .ok (.iload_n 1, 1) := by decide +kernel
theorem dX9_closed_20 : decode cX9_closed 20 = .ok (.laload, 1) := by decide +kernel
theorem dX9_closed_21 : decode cX9_closed 21 = .ok (.lreturn, 1) := by decide +kernel
theorem dX9_moved_0 : decode cX9_moved 0 = .ok (.iload_n 1, 1) := by decide +kernel
theorem dX9_moved_1 : decode cX9_moved 1 = .ok (.iload_n 2, 1) := by decide +kernel
theorem dX9_moved_2 : decode cX9_moved 2 = .ok (.iload_n 3, 1) := by decide +kernel
theorem dX9_moved_3 : decode cX9_moved 3 = .ok (.invokestatic 220, 3) := by decide +kernel
theorem dX9_moved_6 : decode cX9_moved 6 = .ok (.ifCond .ne 7, 3) := by decide +kernel
theorem dX9_moved_9 : decode cX9_moved 9 = .ok (.ldc2_w 189, 3) := by decide +kernel
theorem dX9_moved_12 : decode cX9_moved 12 = .ok (.lreturn, 1) := by decide +kernel
theorem dX9_moved_13 : decode cX9_moved 13 = .ok (.aload_n 0, 1) := by decide +kernel
theorem dX9_moved_14 : decode cX9_moved 14 = .ok (.invokevirtual 186, 3) := by decide +kernel
theorem dX9_moved_17 : decode cX9_moved 17 = .ok (.bipush 48, 2) := by decide +kernel
theorem dX9_moved_19 : decode cX9_moved 19 = .ok (.iload_n 1, 1) := by decide +kernel
theorem dX9_moved_20 : decode cX9_moved 20 = .ok (.imul, 1) := by decide +kernel
theorem dX9_moved_21 : decode cX9_moved 21 = .ok (.bipush 12, 2) := by decide +kernel
theorem dX9_moved_23 : decode cX9_moved 23 = .ok (.iload_n 2, 1) := by decide +kernel
theorem dX9_moved_24 : decode cX9_moved 24 = .ok (.imul, 1) := by decide +kernel
theorem dX9_moved_25 : decode cX9_moved 25 = .ok (.iadd, 1) := by decide +kernel
theorem dX9_moved_26 : decode cX9_moved 26 = .ok (.iload_n 3, 1) := by decide +kernel
theorem dX9_moved_27 : decode cX9_moved 27 = .ok (.iadd, 1) := by decide +kernel
theorem dX9_moved_28 : decode cX9_moved 28 = .ok (.istore 4, 2) := by decide +kernel
theorem dX9_moved_30 : decode cX9_moved 30 = .ok (.aload_n 0, 1) := by decide +kernel
theorem dX9_moved_31 : decode cX9_moved 31 = .ok (.getfield 64, 3) := by decide +kernel
theorem dX9_moved_34 : decode cX9_moved 34 = .ok (.iload 4, 2) := by decide +kernel
theorem dX9_moved_36 : decode cX9_moved 36 = .ok (.baload, 1) := by decide +kernel
theorem dX9_moved_37 : decode cX9_moved 37 = .ok (.ifCond .eq 9, 3) := by decide +kernel
theorem dX9_moved_40 : decode cX9_moved 40 = .ok (.ldc2_w 191, 3) := by decide +kernel
theorem dX9_moved_43 : decode cX9_moved 43 = .ok (.goto 10, 3) := by decide +kernel
theorem dX9_moved_46 : decode cX9_moved 46 = .ok (.aload_n 0, 1) := by decide +kernel
theorem dX9_moved_47 : decode cX9_moved 47 = .ok (.getfield 61, 3) := by decide +kernel
theorem dX9_moved_50 : decode cX9_moved 50 = .ok (.iload 4, 2) := by decide +kernel
theorem dX9_moved_52 : decode cX9_moved 52 = .ok (.laload, 1) := by decide +kernel
theorem dX9_moved_53 : decode cX9_moved 53 = .ok (.lreturn, 1) := by decide +kernel
theorem dX9_totalOf_0 : decode cX9_totalOf 0 = .ok (.lconst 0, 1) := by decide +kernel
theorem dX9_totalOf_1 : decode cX9_totalOf 1 = .ok (.lstore 5, 2) := by decide +kernel
theorem dX9_totalOf_3 : decode cX9_totalOf 3 = .ok (.iconst 0, 1) := by decide +kernel
theorem dX9_totalOf_4 : decode cX9_totalOf 4 = .ok (.istore 7, 2) := by decide +kernel
theorem dX9_totalOf_6 : decode cX9_totalOf 6 = .ok (.iload 7, 2) := by decide +kernel
theorem dX9_totalOf_8 : decode cX9_totalOf 8 = .ok (.bipush 8, 2) := by decide +kernel
theorem dX9_totalOf_10 : decode cX9_totalOf 10 = .ok (.if_icmp .ge 75, 3) := by decide +kernel
theorem dX9_totalOf_13 : decode cX9_totalOf 13 = .ok (.iload_n 1, 1) := by decide +kernel
theorem dX9_totalOf_14 : decode cX9_totalOf 14 = .ok (.iconst (-1), 1) := by decide +kernel
theorem dX9_totalOf_15 : decode cX9_totalOf 15 = .ok (.if_icmp .eq 11, 3) := by decide +kernel
theorem dX9_totalOf_18 : decode cX9_totalOf 18 = .ok (.iload_n 1, 1) := by decide +kernel
theorem dX9_totalOf_19 : decode cX9_totalOf 19 = .ok (.iload 7, 2) := by decide +kernel
theorem dX9_totalOf_21 : decode cX9_totalOf 21 = .ok (.iconst 4, 1) := by decide +kernel
theorem dX9_totalOf_22 : decode cX9_totalOf 22 = .ok (.idiv, 1) := by decide +kernel
theorem dX9_totalOf_23 : decode cX9_totalOf 23 = .ok (.if_icmp .ne 20, 3) := by decide +kernel
theorem dX9_totalOf_26 : decode cX9_totalOf 26 = .ok (.iload_n 2, 1) := by decide +kernel
theorem dX9_totalOf_27 : decode cX9_totalOf 27 = .ok (.iconst (-1), 1) := by decide +kernel
theorem dX9_totalOf_28 : decode cX9_totalOf 28 = .ok (.if_icmp .eq 11, 3) := by decide +kernel
theorem dX9_totalOf_31 : decode cX9_totalOf 31 = .ok (.iload_n 2, 1) := by decide +kernel
theorem dX9_totalOf_32 : decode cX9_totalOf 32 = .ok (.iload 7, 2) := by decide +kernel
theorem dX9_totalOf_34 : decode cX9_totalOf 34 = .ok (.iconst 4, 1) := by decide +kernel
theorem dX9_totalOf_35 : decode cX9_totalOf 35 = .ok (.irem, 1) := by decide +kernel
theorem dX9_totalOf_36 : decode cX9_totalOf 36 = .ok (.if_icmp .ne 7, 3) := by decide +kernel
theorem dX9_totalOf_39 : decode cX9_totalOf 39 = .ok (.iconst 1, 1) := by decide +kernel
theorem dX9_totalOf_40 : decode cX9_totalOf 40 = .ok (.goto 4, 3) := by decide +kernel
theorem dX9_totalOf_43 : decode cX9_totalOf 43 = .ok (.iconst 0, 1) := by decide +kernel
theorem dX9_totalOf_44 : decode cX9_totalOf 44 = .ok (.istore 8, 2) := by decide +kernel
theorem dX9_totalOf_46 : decode cX9_totalOf 46 = .ok (.lload 5, 2) := by decide +kernel
theorem dX9_totalOf_48 : decode cX9_totalOf 48 = .ok (.iload 8, 2) := by decide +kernel
theorem dX9_totalOf_50 : decode cX9_totalOf 50 = .ok (.ifCond .eq 25, 3) := by decide +kernel
theorem dX9_totalOf_53 : decode cX9_totalOf 53 = .ok (.aload_n 0, 1) := by decide +kernel
theorem dX9_totalOf_54 : decode cX9_totalOf 54 = .ok (.getfield 58, 3) := by decide +kernel
theorem dX9_totalOf_57 : decode cX9_totalOf 57 = .ok (.iload 7, 2) := by decide +kernel
theorem dX9_totalOf_59 : decode cX9_totalOf 59 = .ok (.iconst 4, 1) := by decide +kernel
theorem dX9_totalOf_60 : decode cX9_totalOf 60 = .ok (.idiv, 1) := by decide +kernel
theorem dX9_totalOf_61 : decode cX9_totalOf 61 = .ok (.iload 7, 2) := by decide +kernel
theorem dX9_totalOf_63 : decode cX9_totalOf 63 = .ok (.iconst 4, 1) := by decide +kernel
theorem dX9_totalOf_64 : decode cX9_totalOf 64 = .ok (.irem, 1) := by decide +kernel
theorem dX9_totalOf_65 : decode cX9_totalOf 65 = .ok (.iload_n 3, 1) := by decide +kernel
theorem dX9_totalOf_66 : decode cX9_totalOf 66 = .ok (.iload 4, 2) := by decide +kernel
theorem dX9_totalOf_68 : decode cX9_totalOf 68 = .ok (.invokestatic 124, 3) := by decide +kernel
theorem dX9_totalOf_71 : decode cX9_totalOf 71 = .ok (.laload, 1) := by decide +kernel
theorem dX9_totalOf_72 : decode cX9_totalOf 72 = .ok (.goto 4, 3) := by decide +kernel
theorem dX9_totalOf_75 : decode cX9_totalOf 75 = .ok (.lconst 0, 1) := by decide +kernel
theorem dX9_totalOf_76 : decode cX9_totalOf 76 = .ok (.ladd, 1) := by decide +kernel
theorem dX9_totalOf_77 : decode cX9_totalOf 77 = .ok (.lstore 5, 2) := by decide +kernel
theorem dX9_totalOf_79 : decode cX9_totalOf 79 = .ok (.iinc 7 1, 3) := by decide +kernel
theorem dX9_totalOf_82 : decode cX9_totalOf 82 = .ok (.goto (-76), 3) := by decide +kernel
theorem dX9_totalOf_85 : decode cX9_totalOf 85 = .ok (.lload 5, 2) := by decide +kernel
theorem dX9_totalOf_87 : decode cX9_totalOf 87 = .ok (.lreturn, 1) := by decide +kernel
theorem dX9_total_0 : decode cX9_total 0 = .ok (.iload_n 1, 1) := by decide +kernel
theorem dX9_total_1 : decode cX9_total 1 = .ok (.i2l, 1) := by decide +kernel
theorem dX9_total_2 : decode cX9_total 2 = .ok (.ldc2_w 201, 3) := by decide +kernel
theorem dX9_total_5 : decode cX9_total 5 = .ok (.lconst 1, 1) := by decide +kernel
theorem dX9_total_6 : decode cX9_total 6 = .ok (.invokestatic 106, 3) := by decide +kernel
theorem dX9_total_9 : decode cX9_total 9 = .ok (.ifCond .eq 42, 3) := by decide +kernel
theorem dX9_total_12 : decode cX9_total 12 = .ok (.iload_n 2, 1) := by decide +kernel
theorem dX9_total_13 : decode cX9_total 13 = .ok (.i2l, 1) := by decide +kernel
theorem dX9_total_14 : decode cX9_total 14 = .ok (.ldc2_w 201, 3) := by decide +kernel
theorem dX9_total_17 : decode cX9_total 17 = .ok (.ldc2_w 110, 3) := by decide +kernel
theorem dX9_total_20 : decode cX9_total 20 = .ok (.invokestatic 106, 3) := by decide +kernel
theorem dX9_total_23 : decode cX9_total 23 = .ok (.ifCond .eq 28, 3) := by decide +kernel
theorem dX9_total_26 : decode cX9_total 26 = .ok (.iload_n 3, 1) := by decide +kernel
theorem dX9_total_27 : decode cX9_total 27 = .ok (.i2l, 1) := by decide +kernel
theorem dX9_total_28 : decode cX9_total 28 = .ok (.lconst 0, 1) := by decide +kernel
theorem dX9_total_29 : decode cX9_total 29 = .ok (.ldc2_w 112, 3) := by decide +kernel
theorem dX9_total_32 : decode cX9_total 32 = .ok (.invokestatic 106, 3) := by decide +kernel
theorem dX9_total_35 : decode cX9_total 35 = .ok (.ifCond .eq 16, 3) := by decide +kernel
theorem dX9_total_38 : decode cX9_total 38 = .ok (.iload 4, 2) := by decide +kernel
theorem dX9_total_40 : decode cX9_total 40 = .ok (.i2l, 1) := by decide +kernel
theorem dX9_total_41 : decode cX9_total 41 = .ok (.lconst 0, 1) := by decide +kernel
theorem dX9_total_42 : decode cX9_total 42 = .ok (.ldc2_w 122, 3) := by decide +kernel
theorem dX9_total_45 : decode cX9_total 45 = .ok (.invokestatic 106, 3) := by decide +kernel
theorem dX9_total_48 : decode cX9_total 48 = .ok (.ifCond .ne 7, 3) := by decide +kernel
theorem dX9_total_51 : decode cX9_total 51 = .ok (.ldc2_w 189, 3) := by decide +kernel
theorem dX9_total_54 : decode cX9_total 54 = .ok (.lreturn, 1) := by decide +kernel
theorem dX9_total_55 : decode cX9_total 55 = .ok (.aload_n 0, 1) := by decide +kernel
theorem dX9_total_56 : decode cX9_total 56 = .ok (.invokevirtual 186, 3) := by decide +kernel
theorem dX9_total_59 : decode cX9_total 59 = .ok (.aload_n 0, 1) := by decide +kernel
theorem dX9_total_60 : decode cX9_total 60 = .ok (.iload_n 1, 1) := by decide +kernel
theorem dX9_total_61 : decode cX9_total 61 = .ok (.iload_n 2, 1) := by decide +kernel
theorem dX9_total_62 : decode cX9_total 62 = .ok (.iload_n 3, 1) := by decide +kernel
theorem dX9_total_63 : decode cX9_total 63 = .ok (.iload 4, 2) := by decide +kernel
theorem dX9_total_65 : decode cX9_total 65 = .ok (.invokevirtual 223, 3) := by decide +kernel
theorem dX9_total_68 : decode cX9_total 68 = .ok (.lreturn, 1) := by decide +kernel
theorem dX9_openMany_0 : decode cX9_openMany 0 = .ok (.aload_n 0, 1) := by decide +kernel
theorem dX9_openMany_1 : decode cX9_openMany 1 = .ok (.invokevirtual 186, 3) := by decide +kernel
theorem dX9_openMany_4 : decode cX9_openMany 4 = .ok (.iconst 0, 1) := by decide +kernel
theorem dX9_openMany_5 : decode cX9_openMany 5 = .ok (.istore_n 1, 1) := by decide +kernel
theorem dX9_openMany_6 : decode cX9_openMany 6 = .ok (.iconst 0, 1) := by decide +kernel
theorem dX9_openMany_7 : decode cX9_openMany 7 = .ok (.istore_n 2, 1) := by decide +kernel
theorem dX9_openMany_8 : decode cX9_openMany 8 = .ok (.iload_n 2, 1) := by decide +kernel
theorem dX9_openMany_9 : decode cX9_openMany 9 = .ok (.bipush 96, 2) := by decide +kernel
theorem dX9_openMany_11 : decode cX9_openMany 11 = .ok (.if_icmp .ge 26, 3) := by decide +kernel
theorem dX9_openMany_14 : decode cX9_openMany 14 = .ok (.iload_n 1, 1) := by decide +kernel
theorem dX9_openMany_15 : decode cX9_openMany 15 = .ok (.aload_n 0, 1) := by decide +kernel
theorem dX9_openMany_16 : decode cX9_openMany 16 = .ok (.getfield 64, 3) := by decide +kernel
theorem dX9_openMany_19 : decode cX9_openMany 19 = .ok (.iload_n 2, 1) := by decide +kernel
theorem dX9_openMany_20 : decode cX9_openMany 20 = .ok (.baload, 1) := by decide +kernel
theorem dX9_openMany_21 : decode cX9_openMany 21 = .ok (.ifCond .eq 7, 3) := by decide +kernel
theorem dX9_openMany_24 : decode cX9_openMany 24 = .ok (.iconst 1, 1) := by decide +kernel
theorem dX9_openMany_25 : decode cX9_openMany 25 = .ok (.goto 4, 3) := by decide +kernel
theorem dX9_openMany_28 : decode cX9_openMany 28 = .ok (.iconst 0, 1) := by decide +kernel
theorem dX9_openMany_29 : decode cX9_openMany 29 = .ok (.iadd, 1) := by decide +kernel
theorem dX9_openMany_30 : decode cX9_openMany 30 = .ok (.istore_n 1, 1) := by decide +kernel
theorem dX9_openMany_31 : decode cX9_openMany 31 = .ok (.iinc 2 1, 3) := by decide +kernel
theorem dX9_openMany_34 : decode cX9_openMany 34 = .ok (.goto (-26), 3) := by decide +kernel
theorem dX9_openMany_37 : decode cX9_openMany 37 = .ok (.iload_n 1, 1) := by decide +kernel
theorem dX9_openMany_38 : decode cX9_openMany 38 = .ok (.ireturn, 1) := by decide +kernel
theorem dX9_open_0 : decode cX9_open 0 = .ok (.aload_n 0, 1) := by decide +kernel
theorem dX9_open_1 : decode cX9_open 1 = .ok (.invokevirtual 227, 3) := by decide +kernel
theorem dX9_open_4 : decode cX9_open 4 = .ok (.ireturn, 1) := by decide +kernel
theorem dX9_brokenOf_0 : decode cX9_brokenOf 0 = .ok (.aload_n 0, 1) := by decide +kernel
theorem dX9_brokenOf_1 : decode cX9_brokenOf 1 = .ok (.invokevirtual 186, 3) := by decide +kernel
theorem dX9_brokenOf_4 : decode cX9_brokenOf 4 = .ok (.aload_n 0, 1) := by decide +kernel
theorem dX9_brokenOf_5 : decode cX9_brokenOf 5 = .ok (.iconst 0, 1) := by decide +kernel
theorem dX9_brokenOf_6 : decode cX9_brokenOf 6 = .ok (.putfield 231, 3) := by decide +kernel
theorem dX9_brokenOf_9 : decode cX9_brokenOf 9 = .ok (.sipush 576, 3) := by decide +kernel
theorem dX9_brokenOf_12 : decode cX9_brokenOf 12 = .ok (.istore_n 2, 1) := by decide +kernel
theorem dX9_brokenOf_13 : decode cX9_brokenOf 13 = .ok (.iload_n 2, 1) := by decide +kernel
theorem dX9_brokenOf_14 : decode cX9_brokenOf 14 = .ok (.sipush 720, 3) := by decide +kernel
theorem dX9_brokenOf_17 : decode cX9_brokenOf 17 = .ok (.if_icmp .ge 107, 3) := by decide +kernel
theorem dX9_brokenOf_20 : decode cX9_brokenOf 20 = .ok (.iload_n 2, 1) := by decide +kernel
theorem dX9_brokenOf_21 : decode cX9_brokenOf 21 = .ok (.invokestatic 137, 3) := by decide +kernel
theorem dX9_brokenOf_24 : decode cX9_brokenOf 24 = .ok (.iload_n 2, 1) := by decide +kernel
theorem dX9_brokenOf_25 : decode cX9_brokenOf 25 = .ok (.invokestatic 141, 3) := by decide +kernel
theorem dX9_brokenOf_28 : decode cX9_brokenOf 28 = .ok (.iload_n 2, 1) := by decide +kernel
theorem dX9_brokenOf_29 : decode cX9_brokenOf 29 = .ok (.invokestatic 144, 3) := by decide +kernel
theorem dX9_brokenOf_32 : decode cX9_brokenOf 32 = .ok (.iconst 4, 1) := by decide +kernel
theorem dX9_brokenOf_33 : decode cX9_brokenOf 33 = .ok (.iload_n 2, 1) := by decide +kernel
theorem dX9_brokenOf_34 : decode cX9_brokenOf 34 = .ok (.invokestatic 147, 3) := by decide +kernel
theorem dX9_brokenOf_37 : decode cX9_brokenOf 37 = .ok (.imul, 1) := by decide +kernel
theorem dX9_brokenOf_38 : decode cX9_brokenOf 38 = .ok (.invokestatic 124, 3) := by decide +kernel
theorem dX9_brokenOf_41 : decode cX9_brokenOf 41 = .ok (.istore_n 3, 1) := by decide +kernel
theorem dX9_brokenOf_42 : decode cX9_brokenOf 42 = .ok (.aload_n 0, 1) := by decide +kernel
theorem dX9_brokenOf_43 : decode cX9_brokenOf 43 = .ok (.getfield 58, 3) := by decide +kernel
theorem dX9_brokenOf_46 : decode cX9_brokenOf 46 = .ok (.iload_n 3, 1) := by decide +kernel
theorem dX9_brokenOf_47 : decode cX9_brokenOf 47 = .ok (.laload, 1) := by decide +kernel
theorem dX9_brokenOf_48 : decode cX9_brokenOf 48 = .ok (.aload_n 0, 1) := by decide +kernel
theorem dX9_brokenOf_49 : decode cX9_brokenOf 49 = .ok (.getfield 58, 3) := by decide +kernel
theorem dX9_brokenOf_52 : decode cX9_brokenOf 52 = .ok (.iload_n 3, 1) := by decide +kernel
theorem dX9_brokenOf_53 : decode cX9_brokenOf 53 = .ok (.iconst 1, 1) := by decide +kernel
theorem dX9_brokenOf_54 : decode cX9_brokenOf 54 = .ok (.iadd, 1) := by decide +kernel
theorem dX9_brokenOf_55 : decode cX9_brokenOf 55 = .ok (.laload, 1) := by decide +kernel
theorem dX9_brokenOf_56 : decode cX9_brokenOf 56 = .ok (.ladd, 1) := by decide +kernel
theorem dX9_brokenOf_57 : decode cX9_brokenOf 57 = .ok (.aload_n 0, 1) := by decide +kernel
theorem dX9_brokenOf_58 : decode cX9_brokenOf 58 = .ok (.getfield 58, 3) := by decide +kernel
theorem dX9_brokenOf_61 : decode cX9_brokenOf 61 = .ok (.iload_n 3, 1) := by decide +kernel
theorem dX9_brokenOf_62 : decode cX9_brokenOf 62 = .ok (.iconst 2, 1) := by decide +kernel
theorem dX9_brokenOf_63 : decode cX9_brokenOf 63 = .ok (.iadd, 1) := by decide +kernel
theorem dX9_brokenOf_64 : decode cX9_brokenOf 64 = .ok (.laload, 1) := by decide +kernel
theorem dX9_brokenOf_65 : decode cX9_brokenOf 65 = .ok (.ladd, 1) := by decide +kernel
theorem dX9_brokenOf_66 : decode cX9_brokenOf 66 = .ok (.aload_n 0, 1) := by decide +kernel
theorem dX9_brokenOf_67 : decode cX9_brokenOf 67 = .ok (.getfield 58, 3) := by decide +kernel
theorem dX9_brokenOf_70 : decode cX9_brokenOf 70 = .ok (.iload_n 3, 1) := by decide +kernel
theorem dX9_brokenOf_71 : decode cX9_brokenOf 71 = .ok (.iconst 3, 1) := by decide +kernel
theorem dX9_brokenOf_72 : decode cX9_brokenOf 72 = .ok (.iadd, 1) := by decide +kernel
theorem dX9_brokenOf_73 : decode cX9_brokenOf 73 = .ok (.laload, 1) := by decide +kernel
theorem dX9_brokenOf_74 : decode cX9_brokenOf 74 = .ok (.ladd, 1) := by decide +kernel
theorem dX9_brokenOf_75 : decode cX9_brokenOf 75 = .ok (.lstore 4, 2) := by decide +kernel
theorem dX9_brokenOf_77 : decode cX9_brokenOf 77 = .ok (.aload_n 0, 1) := by decide +kernel
theorem dX9_brokenOf_78 : decode cX9_brokenOf 78 = .ok (.getfield 37, 3) := by decide +kernel
theorem dX9_brokenOf_81 : decode cX9_brokenOf 81 = .ok (.iload_n 2, 1) := by decide +kernel
theorem dX9_brokenOf_82 : decode cX9_brokenOf 82 = .ok (.iaload, 1) := by decide +kernel
theorem dX9_brokenOf_83 : decode cX9_brokenOf 83 = .ok (.ifCond .le 35, 3) := by decide +kernel
theorem dX9_brokenOf_86 : decode cX9_brokenOf 86 = .ok (.lload 4, 2) := by decide +kernel
theorem dX9_brokenOf_88 : decode cX9_brokenOf 88 = .ok (.aload_n 0, 1) := by decide +kernel
theorem dX9_brokenOf_89 : decode cX9_brokenOf 89 = .ok (.getfield 33, 3) := by decide +kernel
theorem dX9_brokenOf_92 : decode cX9_brokenOf 92 = .ok (.iload_n 2, 1) := by decide +kernel
theorem dX9_brokenOf_93 : decode cX9_brokenOf 93 = .ok (.laload, 1) := by decide +kernel
theorem dX9_brokenOf_94 : decode cX9_brokenOf 94 = .ok (.lcmp, 1) := by decide +kernel
theorem dX9_brokenOf_95 : decode cX9_brokenOf 95 = .ok (.ifCond .eq 23, 3) := by decide +kernel
theorem dX9_brokenOf_98 : decode cX9_brokenOf 98 = .ok (.aload_n 0, 1) := by decide +kernel
theorem dX9_brokenOf_99 : decode cX9_brokenOf 99 = .ok (.getfield 231, 3) := by decide +kernel
theorem dX9_brokenOf_102 : decode cX9_brokenOf 102 = .ok (.iload_n 1, 1) := by decide +kernel
theorem dX9_brokenOf_103 : decode cX9_brokenOf 103 = .ok (.if_icmp .ne 5, 3) := by decide +kernel
theorem dX9_brokenOf_106 : decode cX9_brokenOf 106 = .ok (.iload_n 2, 1) := by decide +kernel
theorem dX9_brokenOf_107 : decode cX9_brokenOf 107 = .ok (.ireturn, 1) := by decide +kernel
theorem dX9_brokenOf_108 : decode cX9_brokenOf 108 = .ok (.aload_n 0, 1) := by decide +kernel
theorem dX9_brokenOf_109 : decode cX9_brokenOf 109 = .ok (.dup, 1) := by decide +kernel
theorem dX9_brokenOf_110 : decode cX9_brokenOf 110 = .ok (.getfield 231, 3) := by decide +kernel
theorem dX9_brokenOf_113 : decode cX9_brokenOf 113 = .ok (.iconst 1, 1) := by decide +kernel
theorem dX9_brokenOf_114 : decode cX9_brokenOf 114 = .ok (.iadd, 1) := by decide +kernel
theorem dX9_brokenOf_115 : decode cX9_brokenOf 115 = .ok (.putfield 231, 3) := by decide +kernel
theorem dX9_brokenOf_118 : decode cX9_brokenOf 118 = .ok (.iinc 2 1, 3) := by decide +kernel
theorem dX9_brokenOf_121 : decode cX9_brokenOf 121 = .ok (.goto (-108), 3) := by decide +kernel
theorem dX9_brokenOf_124 : decode cX9_brokenOf 124 = .ok (.iconst (-1), 1) := by decide +kernel
theorem dX9_brokenOf_125 : decode cX9_brokenOf 125 = .ok (.ireturn, 1) := by decide +kernel
theorem dX9_broken_0 : decode cX9_broken 0 = .ok (.aload_n 0, 1) := by decide +kernel
theorem dX9_broken_1 : decode cX9_broken 1 = .ok (.iconst (-1), 1) := by decide +kernel
theorem dX9_broken_2 : decode cX9_broken 2 = .ok (.invokevirtual 234, 3) := by decide +kernel
theorem dX9_broken_5 : decode cX9_broken 5 = .ok (.istore_n 1, 1) := by decide +kernel
theorem dX9_broken_6 : decode cX9_broken 6 = .ok (.aload_n 0, 1) := by decide +kernel
theorem dX9_broken_7 : decode cX9_broken 7 = .ok (.getfield 231, 3) := by decide +kernel
theorem dX9_broken_10 : decode cX9_broken 10 = .ok (.ireturn, 1) := by decide +kernel
theorem dX9_breaks_0 : decode cX9_breaks 0 = .ok (.iload_n 1, 1) := by decide +kernel
theorem dX9_breaks_1 : decode cX9_breaks 1 = .ok (.ifCond .ge 8, 3) := by decide +kernel
theorem dX9_breaks_4 : decode cX9_breaks 4 = .ok (.bipush (-2), 2) := by decide +kernel
theorem dX9_breaks_6 : decode cX9_breaks 6 = .ok (.goto 8, 3) := by decide +kernel
theorem dX9_breaks_9 : decode cX9_breaks 9 = .ok (.aload_n 0, 1) := by decide +kernel
theorem dX9_breaks_10 : decode cX9_breaks 10 = .ok (.iload_n 1, 1) := by decide +kernel
theorem dX9_breaks_11 : decode cX9_breaks 11 = .ok (.invokevirtual 234, 3) := by decide +kernel
theorem dX9_breaks_14 : decode cX9_breaks 14 = .ok (.ireturn, 1) := by decide +kernel
theorem dX9_price_0 : decode cX9_price 0 = .ok (.iload_n 1, 1) := by decide +kernel
theorem dX9_price_1 : decode cX9_price 1 = .ok (.i2l, 1) := by decide +kernel
theorem dX9_price_2 : decode cX9_price 2 = .ok (.lconst 0, 1) := by decide +kernel
theorem dX9_price_3 : decode cX9_price 3 = .ok (.ldc2_w 110, 3) := by decide +kernel
theorem dX9_price_6 : decode cX9_price 6 = .ok (.invokestatic 106, 3) := by decide +kernel
theorem dX9_price_9 : decode cX9_price 9 = .ok (.ifCond .eq 29, 3) := by decide +kernel
theorem dX9_price_12 : decode cX9_price 12 = .ok (.iload_n 2, 1) := by decide +kernel
theorem dX9_price_13 : decode cX9_price 13 = .ok (.i2l, 1) := by decide +kernel
theorem dX9_price_14 : decode cX9_price 14 = .ok (.lconst 0, 1) := by decide +kernel
theorem dX9_price_15 : decode cX9_price 15 = .ok (.ldc2_w 122, 3) := by decide +kernel
theorem dX9_price_18 : decode cX9_price 18 = .ok (.invokestatic 106, 3) := by decide +kernel
theorem dX9_price_21 : decode cX9_price 21 = .ok (.ifCond .eq 17, 3) := by decide +kernel
theorem dX9_price_24 : decode cX9_price 24 = .ok (.iload_n 3, 1) := by decide +kernel
theorem dX9_price_25 : decode cX9_price 25 = .ok (.i2l, 1) := by decide +kernel
theorem dX9_price_26 : decode cX9_price 26 = .ok (.ldc2_w 237, 3) := by decide +kernel
theorem dX9_price_29 : decode cX9_price 29 = .ok (.ldc2_w 239, 3) := by decide +kernel
theorem dX9_price_32 : decode cX9_price 32 = .ok (.invokestatic 106, 3) := by decide +kernel
theorem dX9_price_35 : decode cX9_price 35 = .ok (.ifCond .ne 6, 3) := by decide +kernel
theorem dX9_price_38 : decode cX9_price 38 = .ok (.bipush (-2), 2) := by decide +kernel
theorem dX9_price_40 : decode cX9_price 40 = .ok (.ireturn, 1) := by decide +kernel
theorem dX9_price_41 : decode cX9_price 41 = .ok (.aload_n 0, 1) := by decide +kernel
theorem dX9_price_42 : decode cX9_price 42 = .ok (.getfield 67, 3) := by decide +kernel
theorem dX9_price_45 : decode cX9_price 45 = .ok (.bipush 12, 2) := by decide +kernel
theorem dX9_price_47 : decode cX9_price 47 = .ok (.iload_n 1, 1) := by decide +kernel
theorem dX9_price_48 : decode cX9_price 48 = .ok (.imul, 1) := by decide +kernel
theorem dX9_price_49 : decode cX9_price 49 = .ok (.iload_n 2, 1) := by decide +kernel
theorem dX9_price_50 : decode cX9_price 50 = .ok (.iadd, 1) := by decide +kernel
theorem dX9_price_51 : decode cX9_price 51 = .ok (.iaload, 1) := by decide +kernel
theorem dX9_price_52 : decode cX9_price 52 = .ok (.istore 4, 2) := by decide +kernel
theorem dX9_price_54 : decode cX9_price 54 = .ok (.aload_n 0, 1) := by decide +kernel
theorem dX9_price_55 : decode cX9_price 55 = .ok (.getfield 67, 3) := by decide +kernel
theorem dX9_price_58 : decode cX9_price 58 = .ok (.bipush 12, 2) := by decide +kernel
theorem dX9_price_60 : decode cX9_price 60 = .ok (.iload_n 1, 1) := by decide +kernel
theorem dX9_price_61 : decode cX9_price 61 = .ok (.imul, 1) := by decide +kernel
theorem dX9_price_62 : decode cX9_price 62 = .ok (.iload_n 2, 1) := by decide +kernel
theorem dX9_price_63 : decode cX9_price 63 = .ok (.iadd, 1) := by decide +kernel
theorem dX9_price_64 : decode cX9_price 64 = .ok (.iload_n 3, 1) := by decide +kernel
theorem dX9_price_65 : decode cX9_price 65 = .ok (.iastore, 1) := by decide +kernel
theorem dX9_price_66 : decode cX9_price 66 = .ok (.iload 4, 2) := by decide +kernel
theorem dX9_price_68 : decode cX9_price 68 = .ok (.ireturn, 1) := by decide +kernel
theorem dX9_volumeOf_0 : decode cX9_volumeOf 0 = .ok (.ldc2_w 241, 3) := by decide +kernel
theorem dX9_volumeOf_3 : decode cX9_volumeOf 3 = .ok (.aload_n 0, 1) := by decide +kernel
theorem dX9_volumeOf_4 : decode cX9_volumeOf 4 = .ok (.iconst (-1), 1) := by decide +kernel
theorem dX9_volumeOf_5 : decode cX9_volumeOf 5 = .ok (.iload_n 1, 1) := by decide +kernel
theorem dX9_volumeOf_6 : decode cX9_volumeOf 6 = .ok (.iload_n 2, 1) := by decide +kernel
theorem dX9_volumeOf_7 : decode cX9_volumeOf 7 = .ok (.iload_n 3, 1) := by decide +kernel
theorem dX9_volumeOf_8 : decode cX9_volumeOf 8 = .ok (.invokevirtual 223, 3) := by decide +kernel
theorem dX9_volumeOf_11 : decode cX9_volumeOf 11 = .ok (.lmul, 1) := by decide +kernel
theorem dX9_volumeOf_12 : decode cX9_volumeOf 12 = .ok (.aload_n 0, 1) := by decide +kernel
theorem dX9_volumeOf_13 : decode cX9_volumeOf 13 = .ok (.getfield 67, 3) := by decide +kernel
theorem dX9_volumeOf_16 : decode cX9_volumeOf 16 = .ok (.bipush 12, 2) := by decide +kernel
theorem dX9_volumeOf_18 : decode cX9_volumeOf 18 = .ok (.iload_n 1, 1) := by decide +kernel
theorem dX9_volumeOf_19 : decode cX9_volumeOf 19 = .ok (.imul, 1) := by decide +kernel
theorem dX9_volumeOf_20 : decode cX9_volumeOf 20 = .ok (.iload_n 3, 1) := by decide +kernel
theorem dX9_volumeOf_21 : decode cX9_volumeOf 21 = .ok (.iadd, 1) := by decide +kernel
theorem dX9_volumeOf_22 : decode cX9_volumeOf 22 = .ok (.iaload, 1) := by decide +kernel
theorem dX9_volumeOf_23 : decode cX9_volumeOf 23 = .ok (.i2l, 1) := by decide +kernel
theorem dX9_volumeOf_24 : decode cX9_volumeOf 24 = .ok (.invokestatic 193, 3) := by decide +kernel
theorem dX9_volumeOf_27 : decode cX9_volumeOf 27 = .ok (.lreturn, 1) := by decide +kernel
theorem dX9_volume_0 : decode cX9_volume 0 = .ok (.iload_n 1, 1) := by decide +kernel
theorem dX9_volume_1 : decode cX9_volume 1 = .ok (.i2l, 1) := by decide +kernel
theorem dX9_volume_2 : decode cX9_volume 2 = .ok (.lconst 0, 1) := by decide +kernel
theorem dX9_volume_3 : decode cX9_volume 3 = .ok (.ldc2_w 110, 3) := by decide +kernel
theorem dX9_volume_6 : decode cX9_volume 6 = .ok (.invokestatic 106, 3) := by decide +kernel
theorem dX9_volume_9 : decode cX9_volume 9 = .ok (.ifCond .eq 27, 3) := by decide +kernel
theorem dX9_volume_12 : decode cX9_volume 12 = .ok (.iload_n 2, 1) := by decide +kernel
theorem dX9_volume_13 : decode cX9_volume 13 = .ok (.i2l, 1) := by decide +kernel
theorem dX9_volume_14 : decode cX9_volume 14 = .ok (.lconst 0, 1) := by decide +kernel
theorem dX9_volume_15 : decode cX9_volume 15 = .ok (.ldc2_w 112, 3) := by decide +kernel
theorem dX9_volume_18 : decode cX9_volume 18 = .ok (.invokestatic 106, 3) := by decide +kernel
theorem dX9_volume_21 : decode cX9_volume 21 = .ok (.ifCond .eq 15, 3) := by decide +kernel
theorem dX9_volume_24 : decode cX9_volume 24 = .ok (.iload_n 3, 1) := by decide +kernel
theorem dX9_volume_25 : decode cX9_volume 25 = .ok (.i2l, 1) := by decide +kernel
theorem dX9_volume_26 : decode cX9_volume 26 = .ok (.lconst 0, 1) := by decide +kernel
theorem dX9_volume_27 : decode cX9_volume 27 = .ok (.ldc2_w 122, 3) := by decide +kernel
theorem dX9_volume_30 : decode cX9_volume 30 = .ok (.invokestatic 106, 3) := by decide +kernel
theorem dX9_volume_33 : decode cX9_volume 33 = .ok (.ifCond .ne 7, 3) := by decide +kernel
theorem dX9_volume_36 : decode cX9_volume 36 = .ok (.ldc2_w 189, 3) := by decide +kernel
theorem dX9_volume_39 : decode cX9_volume 39 = .ok (.lreturn, 1) := by decide +kernel
theorem dX9_volume_40 : decode cX9_volume 40 = .ok (.aload_n 0, 1) := by decide +kernel
theorem dX9_volume_41 : decode cX9_volume 41 = .ok (.invokevirtual 186, 3) := by decide +kernel
theorem dX9_volume_44 : decode cX9_volume 44 = .ok (.aload_n 0, 1) := by decide +kernel
theorem dX9_volume_45 : decode cX9_volume 45 = .ok (.iload_n 1, 1) := by decide +kernel
theorem dX9_volume_46 : decode cX9_volume 46 = .ok (.iload_n 2, 1) := by decide +kernel
theorem dX9_volume_47 : decode cX9_volume 47 = .ok (.iload_n 3, 1) := by decide +kernel
theorem dX9_volume_48 : decode cX9_volume 48 = .ok (.invokevirtual 243, 3) := by decide +kernel
theorem dX9_volume_51 : decode cX9_volume 51 = .ok (.lreturn, 1) := by decide +kernel
theorem dX9_atPricesOf_0 : decode cX9_atPricesOf 0 = .ok (.lconst 0, 1) := by decide +kernel
theorem dX9_atPricesOf_1 : decode cX9_atPricesOf 1 = .ok (.lstore 5, 2) := by decide +kernel
theorem dX9_atPricesOf_3 : decode cX9_atPricesOf 3 = .ok (.iconst 0, 1) := by decide +kernel
theorem dX9_atPricesOf_4 : decode cX9_atPricesOf 4 = .ok (.istore 7, 2) := by decide +kernel
theorem dX9_atPricesOf_6 : decode cX9_atPricesOf 6 = .ok (.iload 7, 2) := by decide +kernel
theorem dX9_atPricesOf_8 : decode cX9_atPricesOf 8 = .ok (.iconst 4, 1) := by decide +kernel
theorem dX9_atPricesOf_9 : decode cX9_atPricesOf 9 = .ok (.if_icmp .ge 92, 3) := by decide +kernel
theorem dX9_atPricesOf_12 : decode cX9_atPricesOf 12 = .ok (.bipush 12, 2) := by decide +kernel
theorem dX9_atPricesOf_14 : decode cX9_atPricesOf 14 = .ok (.iload 7, 2) := by decide +kernel
theorem dX9_atPricesOf_16 : decode cX9_atPricesOf 16 = .ok (.imul, 1) := by decide +kernel
theorem dX9_atPricesOf_17 : decode cX9_atPricesOf 17 = .ok (.iconst 4, 1) := by decide +kernel
theorem dX9_atPricesOf_18 : decode cX9_atPricesOf 18 = .ok (.iload 4, 2) := by decide +kernel
theorem dX9_atPricesOf_20 : decode cX9_atPricesOf 20 = .ok (.imul, 1) := by decide +kernel
theorem dX9_atPricesOf_21 : decode cX9_atPricesOf 21 = .ok (.iadd, 1) := by decide +kernel
theorem dX9_atPricesOf_22 : decode cX9_atPricesOf 22 = .ok (.istore 8, 2) := by decide +kernel
theorem dX9_atPricesOf_24 : decode cX9_atPricesOf 24 = .ok (.aload_n 0, 1) := by decide +kernel
theorem dX9_atPricesOf_25 : decode cX9_atPricesOf 25 = .ok (.getfield 67, 3) := by decide +kernel
theorem dX9_atPricesOf_28 : decode cX9_atPricesOf 28 = .ok (.iload 8, 2) := by decide +kernel
theorem dX9_atPricesOf_30 : decode cX9_atPricesOf 30 = .ok (.iaload, 1) := by decide +kernel
theorem dX9_atPricesOf_31 : decode cX9_atPricesOf 31 = .ok (.aload_n 0, 1) := by decide +kernel
theorem dX9_atPricesOf_32 : decode cX9_atPricesOf 32 = .ok (.getfield 67, 3) := by decide +kernel
theorem dX9_atPricesOf_35 : decode cX9_atPricesOf 35 = .ok (.iload 8, 2) := by decide +kernel
theorem dX9_atPricesOf_37 : decode cX9_atPricesOf 37 = .ok (.iconst 1, 1) := by decide +kernel
theorem dX9_atPricesOf_38 : decode cX9_atPricesOf 38 = .ok (.iadd, 1) := by decide +kernel
theorem dX9_atPricesOf_39 : decode cX9_atPricesOf 39 = .ok (.iaload, 1) := by decide +kernel
theorem dX9_atPricesOf_40 : decode cX9_atPricesOf 40 = .ok (.iadd, 1) := by decide +kernel
theorem dX9_atPricesOf_41 : decode cX9_atPricesOf 41 = .ok (.aload_n 0, 1) := by decide +kernel
theorem dX9_atPricesOf_42 : decode cX9_atPricesOf 42 = .ok (.getfield 67, 3) := by decide +kernel
theorem dX9_atPricesOf_45 : decode cX9_atPricesOf 45 = .ok (.iload 8, 2) := by decide +kernel
theorem dX9_atPricesOf_47 : decode cX9_atPricesOf 47 = .ok (.iconst 2, 1) := by decide +kernel
theorem dX9_atPricesOf_48 : decode cX9_atPricesOf 48 = .ok (.iadd, 1) := by decide +kernel
theorem dX9_atPricesOf_49 : decode cX9_atPricesOf 49 = .ok (.iaload, 1) := by decide +kernel
theorem dX9_atPricesOf_50 : decode cX9_atPricesOf 50 = .ok (.iadd, 1) := by decide +kernel
theorem dX9_atPricesOf_51 : decode cX9_atPricesOf 51 = .ok (.aload_n 0, 1) := by decide +kernel
theorem dX9_atPricesOf_52 : decode cX9_atPricesOf 52 = .ok (.getfield 67, 3) := by decide +kernel
theorem dX9_atPricesOf_55 : decode cX9_atPricesOf 55 = .ok (.iload 8, 2) := by decide +kernel
theorem dX9_atPricesOf_57 : decode cX9_atPricesOf 57 = .ok (.iconst 3, 1) := by decide +kernel
theorem dX9_atPricesOf_58 : decode cX9_atPricesOf 58 = .ok (.iadd, 1) := by decide +kernel
theorem dX9_atPricesOf_59 : decode cX9_atPricesOf 59 = .ok (.iaload, 1) := by decide +kernel
theorem dX9_atPricesOf_60 : decode cX9_atPricesOf 60 = .ok (.iadd, 1) := by decide +kernel
theorem dX9_atPricesOf_61 : decode cX9_atPricesOf 61 = .ok (.i2l, 1) := by decide +kernel
theorem dX9_atPricesOf_62 : decode cX9_atPricesOf 62 = .ok (.lstore 9, 2) := by decide +kernel
theorem dX9_atPricesOf_64 : decode cX9_atPricesOf 64 = .ok (.lload 5, 2) := by decide +kernel
theorem dX9_atPricesOf_66 : decode cX9_atPricesOf 66 = .ok (.iload_n 1, 1) := by decide +kernel
theorem dX9_atPricesOf_67 : decode cX9_atPricesOf 67 = .ok (.iconst (-1), 1) := by decide +kernel
theorem dX9_atPricesOf_68 : decode cX9_atPricesOf 68 = .ok (.if_icmp .eq 9, 3) := by decide +kernel
theorem dX9_atPricesOf_71 : decode cX9_atPricesOf 71 = .ok (.iload_n 1, 1) := by decide +kernel
theorem dX9_atPricesOf_72 : decode cX9_atPricesOf 72 = .ok (.iload 7, 2) := by decide +kernel
theorem dX9_atPricesOf_74 : decode cX9_atPricesOf 74 = .ok (.if_icmp .ne 17, 3) := by decide +kernel
theorem dX9_atPricesOf_77 : decode cX9_atPricesOf 77 = .ok (.aload_n 0, 1) := by decide +kernel
theorem dX9_atPricesOf_78 : decode cX9_atPricesOf 78 = .ok (.iload 7, 2) := by decide +kernel
theorem dX9_atPricesOf_80 : decode cX9_atPricesOf 80 = .ok (.iload_n 2, 1) := by decide +kernel
theorem dX9_atPricesOf_81 : decode cX9_atPricesOf 81 = .ok (.iload_n 3, 1) := by decide +kernel
theorem dX9_atPricesOf_82 : decode cX9_atPricesOf 82 = .ok (.invokevirtual 243, 3) := by decide +kernel
theorem dX9_atPricesOf_85 : decode cX9_atPricesOf 85 = .ok (.lload 9, 2) := by decide +kernel
theorem dX9_atPricesOf_87 : decode cX9_atPricesOf 87 = .ok (.lmul, 1) := by decide +kernel
theorem dX9_atPricesOf_88 : decode cX9_atPricesOf 88 = .ok (.goto 4, 3) := by decide +kernel
theorem dX9_atPricesOf_91 : decode cX9_atPricesOf 91 = .ok (.lconst 0, 1) := by decide +kernel
theorem dX9_atPricesOf_92 : decode cX9_atPricesOf 92 = .ok (.ladd, 1) := by decide +kernel
theorem dX9_atPricesOf_93 : decode cX9_atPricesOf 93 = .ok (.lstore 5, 2) := by decide +kernel
theorem dX9_atPricesOf_95 : decode cX9_atPricesOf 95 = .ok (.iinc 7 1, 3) := by decide +kernel
theorem dX9_atPricesOf_98 : decode cX9_atPricesOf 98 = .ok (.goto (-92), 3) := by decide +kernel
theorem dX9_atPricesOf_101 : decode cX9_atPricesOf 101 = .ok (.lload 5, 2) := by decide +kernel
theorem dX9_atPricesOf_103 : decode cX9_atPricesOf 103 = .ok (.lreturn, 1) := by decide +kernel
theorem dX9_atPrices_0 : decode cX9_atPrices 0 = .ok (.iload_n 1, 1) := by decide +kernel
theorem dX9_atPrices_1 : decode cX9_atPrices 1 = .ok (.i2l, 1) := by decide +kernel
theorem dX9_atPrices_2 : decode cX9_atPrices 2 = .ok (.ldc2_w 201, 3) := by decide +kernel
theorem dX9_atPrices_5 : decode cX9_atPrices 5 = .ok (.ldc2_w 110, 3) := by decide +kernel
theorem dX9_atPrices_8 : decode cX9_atPrices 8 = .ok (.invokestatic 106, 3) := by decide +kernel
theorem dX9_atPrices_11 : decode cX9_atPrices 11 = .ok (.ifCond .eq 40, 3) := by decide +kernel
theorem dX9_atPrices_14 : decode cX9_atPrices 14 = .ok (.iload_n 2, 1) := by decide +kernel
theorem dX9_atPrices_15 : decode cX9_atPrices 15 = .ok (.i2l, 1) := by decide +kernel
theorem dX9_atPrices_16 : decode cX9_atPrices 16 = .ok (.lconst 0, 1) := by decide +kernel
theorem dX9_atPrices_17 : decode cX9_atPrices 17 = .ok (.ldc2_w 112, 3) := by decide +kernel
theorem dX9_atPrices_20 : decode cX9_atPrices 20 = .ok (.invokestatic 106, 3) := by decide +kernel
theorem dX9_atPrices_23 : decode cX9_atPrices 23 = .ok (.ifCond .eq 28, 3) := by decide +kernel
theorem dX9_atPrices_26 : decode cX9_atPrices 26 = .ok (.iload_n 3, 1) := by decide +kernel
theorem dX9_atPrices_27 : decode cX9_atPrices 27 = .ok (.i2l, 1) := by decide +kernel
theorem dX9_atPrices_28 : decode cX9_atPrices 28 = .ok (.lconst 0, 1) := by decide +kernel
theorem dX9_atPrices_29 : decode cX9_atPrices 29 = .ok (.ldc2_w 122, 3) := by decide +kernel
theorem dX9_atPrices_32 : decode cX9_atPrices 32 = .ok (.invokestatic 106, 3) := by decide +kernel
theorem dX9_atPrices_35 : decode cX9_atPrices 35 = .ok (.ifCond .eq 16, 3) := by decide +kernel
theorem dX9_atPrices_38 : decode cX9_atPrices 38 = .ok (.iload 4, 2) := by decide +kernel
theorem dX9_atPrices_40 : decode cX9_atPrices 40 = .ok (.i2l, 1) := by decide +kernel
theorem dX9_atPrices_41 : decode cX9_atPrices 41 = .ok (.lconst 0, 1) := by decide +kernel
theorem dX9_atPrices_42 : decode cX9_atPrices 42 = .ok (.ldc2_w 128, 3) := by decide +kernel
theorem dX9_atPrices_45 : decode cX9_atPrices 45 = .ok (.invokestatic 106, 3) := by decide +kernel
theorem dX9_atPrices_48 : decode cX9_atPrices 48 = .ok (.ifCond .ne 7, 3) := by decide +kernel
theorem dX9_atPrices_51 : decode cX9_atPrices 51 = .ok (.ldc2_w 189, 3) := by decide +kernel
theorem dX9_atPrices_54 : decode cX9_atPrices 54 = .ok (.lreturn, 1) := by decide +kernel
theorem dX9_atPrices_55 : decode cX9_atPrices 55 = .ok (.aload_n 0, 1) := by decide +kernel
theorem dX9_atPrices_56 : decode cX9_atPrices 56 = .ok (.invokevirtual 186, 3) := by decide +kernel
theorem dX9_atPrices_59 : decode cX9_atPrices 59 = .ok (.aload_n 0, 1) := by decide +kernel
theorem dX9_atPrices_60 : decode cX9_atPrices 60 = .ok (.iload_n 1, 1) := by decide +kernel
theorem dX9_atPrices_61 : decode cX9_atPrices 61 = .ok (.iload_n 2, 1) := by decide +kernel
theorem dX9_atPrices_62 : decode cX9_atPrices 62 = .ok (.iload_n 3, 1) := by decide +kernel
theorem dX9_atPrices_63 : decode cX9_atPrices 63 = .ok (.iload 4, 2) := by decide +kernel
theorem dX9_atPrices_65 : decode cX9_atPrices 65 = .ok (.invokevirtual 246, 3) := by decide +kernel
theorem dX9_atPrices_68 : decode cX9_atPrices 68 = .ok (.lreturn, 1) := by decide +kernel
theorem dX9_yearFor_0 : decode cX9_yearFor 0 = .ok (.iload_n 0, 1) := by decide +kernel
theorem dX9_yearFor_1 : decode cX9_yearFor 1 = .ok (.iconst 4, 1) := by decide +kernel
theorem dX9_yearFor_2 : decode cX9_yearFor 2 = .ok (.if_icmp .ge 7, 3) := by decide +kernel
theorem dX9_yearFor_5 : decode cX9_yearFor 5 = .ok (.iconst 0, 1) := by decide +kernel
theorem dX9_yearFor_6 : decode cX9_yearFor 6 = .ok (.goto 8, 3) := by decide +kernel
theorem dX9_yearFor_9 : decode cX9_yearFor 9 = .ok (.iload_n 0, 1) := by decide +kernel
theorem dX9_yearFor_10 : decode cX9_yearFor 10 = .ok (.iconst 4, 1) := by decide +kernel
theorem dX9_yearFor_11 : decode cX9_yearFor 11 = .ok (.idiv, 1) := by decide +kernel
theorem dX9_yearFor_12 : decode cX9_yearFor 12 = .ok (.iconst 1, 1) := by decide +kernel
theorem dX9_yearFor_13 : decode cX9_yearFor 13 = .ok (.isub, 1) := by decide +kernel
theorem dX9_yearFor_14 : decode cX9_yearFor 14 = .ok (.ireturn, 1) := by decide +kernel
theorem dX9_lowerOf_0 : decode cX9_lowerOf 0 = .ok (.aload_n 0, 1) := by decide +kernel
theorem dX9_lowerOf_1 : decode cX9_lowerOf 1 = .ok (.iload_n 1, 1) := by decide +kernel
theorem dX9_lowerOf_2 : decode cX9_lowerOf 2 = .ok (.iload_n 2, 1) := by decide +kernel
theorem dX9_lowerOf_3 : decode cX9_lowerOf 3 = .ok (.iload_n 3, 1) := by decide +kernel
theorem dX9_lowerOf_4 : decode cX9_lowerOf 4 = .ok (.iconst 1, 1) := by decide +kernel
theorem dX9_lowerOf_5 : decode cX9_lowerOf 5 = .ok (.isub, 1) := by decide +kernel
theorem dX9_lowerOf_6 : decode cX9_lowerOf 6 = .ok (.iload_n 3, 1) := by decide +kernel
theorem dX9_lowerOf_7 : decode cX9_lowerOf 7 = .ok (.invokestatic 249, 3) := by decide +kernel
theorem dX9_lowerOf_10 : decode cX9_lowerOf 10 = .ok (.invokevirtual 246, 3) := by decide +kernel
theorem dX9_lowerOf_13 : decode cX9_lowerOf 13 = .ok (.lreturn, 1) := by decide +kernel
theorem dX9_growthOf_0 : decode cX9_growthOf 0 = .ok (.aload_n 0, 1) := by decide +kernel
theorem dX9_growthOf_1 : decode cX9_growthOf 1 = .ok (.iload_n 1, 1) := by decide +kernel
theorem dX9_growthOf_2 : decode cX9_growthOf 2 = .ok (.iload_n 2, 1) := by decide +kernel
theorem dX9_growthOf_3 : decode cX9_growthOf 3 = .ok (.iload_n 3, 1) := by decide +kernel
theorem dX9_growthOf_4 : decode cX9_growthOf 4 = .ok (.invokevirtual 252, 3) := by decide +kernel
theorem dX9_growthOf_7 : decode cX9_growthOf 7 = .ok (.lstore 4, 2) := by decide +kernel
theorem dX9_growthOf_9 : decode cX9_growthOf 9 = .ok (.lload 4, 2) := by decide +kernel
theorem dX9_growthOf_11 : decode cX9_growthOf 11 = .ok (.lconst 0, 1) := by decide +kernel
theorem dX9_growthOf_12 : decode cX9_growthOf 12 = .ok (.lcmp, 1) := by decide +kernel
theorem dX9_growthOf_13 : decode cX9_growthOf 13 = .ok (.ifCond .le 26, 3) := by decide +kernel
theorem dX9_growthOf_16 : decode cX9_growthOf 16 = .ok (.ldc2_w 255, 3) := by decide +kernel
theorem dX9_growthOf_19 : decode cX9_growthOf 19 = .ok (.aload_n 0, 1) := by decide +kernel
theorem dX9_growthOf_20 : decode cX9_growthOf 20 = .ok (.iload_n 1, 1) := by decide +kernel
theorem dX9_growthOf_21 : decode cX9_growthOf 21 = .ok (.iload_n 2, 1) := by decide +kernel
theorem dX9_growthOf_22 : decode cX9_growthOf 22 = .ok (.iload_n 3, 1) := by decide +kernel
theorem dX9_growthOf_23 : decode cX9_growthOf 23 = .ok (.iload_n 3, 1) := by decide +kernel
theorem dX9_growthOf_24 : decode cX9_growthOf 24 = .ok (.invokestatic 249, 3) := by decide +kernel
theorem dX9_growthOf_27 : decode cX9_growthOf 27 = .ok (.invokevirtual 246, 3) := by decide +kernel
theorem dX9_growthOf_30 : decode cX9_growthOf 30 = .ok (.lmul, 1) := by decide +kernel
theorem dX9_growthOf_31 : decode cX9_growthOf 31 = .ok (.lload 4, 2) := by decide +kernel
theorem dX9_growthOf_33 : decode cX9_growthOf 33 = .ok (.invokestatic 193, 3) := by decide +kernel
theorem dX9_growthOf_36 : decode cX9_growthOf 36 = .ok (.goto 6, 3) := by decide +kernel
theorem dX9_growthOf_39 : decode cX9_growthOf 39 = .ok (.ldc2_w 201, 3) := by decide +kernel
theorem dX9_growthOf_42 : decode cX9_growthOf 42 = .ok (.lreturn, 1) := by decide +kernel
theorem dX9_growth_0 : decode cX9_growth 0 = .ok (.iload_n 1, 1) := by decide +kernel
theorem dX9_growth_1 : decode cX9_growth 1 = .ok (.i2l, 1) := by decide +kernel
theorem dX9_growth_2 : decode cX9_growth 2 = .ok (.ldc2_w 201, 3) := by decide +kernel
theorem dX9_growth_5 : decode cX9_growth 5 = .ok (.ldc2_w 110, 3) := by decide +kernel
theorem dX9_growth_8 : decode cX9_growth 8 = .ok (.invokestatic 106, 3) := by decide +kernel
theorem dX9_growth_11 : decode cX9_growth 11 = .ok (.ifCond .eq 27, 3) := by decide +kernel
theorem dX9_growth_14 : decode cX9_growth 14 = .ok (.iload_n 2, 1) := by decide +kernel
theorem dX9_growth_15 : decode cX9_growth 15 = .ok (.i2l, 1) := by decide +kernel
theorem dX9_growth_16 : decode cX9_growth 16 = .ok (.lconst 0, 1) := by decide +kernel
theorem dX9_growth_17 : decode cX9_growth 17 = .ok (.ldc2_w 112, 3) := by decide +kernel
theorem dX9_growth_20 : decode cX9_growth 20 = .ok (.invokestatic 106, 3) := by decide +kernel
theorem dX9_growth_23 : decode cX9_growth 23 = .ok (.ifCond .eq 15, 3) := by decide +kernel
theorem dX9_growth_26 : decode cX9_growth 26 = .ok (.iload_n 3, 1) := by decide +kernel
theorem dX9_growth_27 : decode cX9_growth 27 = .ok (.i2l, 1) := by decide +kernel
theorem dX9_growth_28 : decode cX9_growth 28 = .ok (.lconst 1, 1) := by decide +kernel
theorem dX9_growth_29 : decode cX9_growth 29 = .ok (.ldc2_w 122, 3) := by decide +kernel
theorem dX9_growth_32 : decode cX9_growth 32 = .ok (.invokestatic 106, 3) := by decide +kernel
theorem dX9_growth_35 : decode cX9_growth 35 = .ok (.ifCond .ne 7, 3) := by decide +kernel
theorem dX9_growth_38 : decode cX9_growth 38 = .ok (.ldc2_w 189, 3) := by decide +kernel
theorem dX9_growth_41 : decode cX9_growth 41 = .ok (.lreturn, 1) := by decide +kernel
theorem dX9_growth_42 : decode cX9_growth 42 = .ok (.aload_n 0, 1) := by decide +kernel
theorem dX9_growth_43 : decode cX9_growth 43 = .ok (.invokevirtual 186, 3) := by decide +kernel
theorem dX9_growth_46 : decode cX9_growth 46 = .ok (.aload_n 0, 1) := by decide +kernel
theorem dX9_growth_47 : decode cX9_growth 47 = .ok (.iload_n 1, 1) := by decide +kernel
theorem dX9_growth_48 : decode cX9_growth 48 = .ok (.iload_n 2, 1) := by decide +kernel
theorem dX9_growth_49 : decode cX9_growth 49 = .ok (.iload_n 3, 1) := by decide +kernel
theorem dX9_growth_50 : decode cX9_growth 50 = .ok (.invokevirtual 257, 3) := by decide +kernel
theorem dX9_growth_53 : decode cX9_growth 53 = .ok (.lreturn, 1) := by decide +kernel
theorem dX9_cut_0 : decode cX9_cut 0 = .ok (.lload_n 0, 1) := by decide +kernel
theorem dX9_cut_1 : decode cX9_cut 1 = .ok (.lload_n 2, 1) := by decide +kernel
theorem dX9_cut_2 : decode cX9_cut 2 = .ok (.lcmp, 1) := by decide +kernel
theorem dX9_cut_3 : decode cX9_cut 3 = .ok (.ifCond .le 7, 3) := by decide +kernel
theorem dX9_cut_6 : decode cX9_cut 6 = .ok (.lload_n 2, 1) := by decide +kernel
theorem dX9_cut_7 : decode cX9_cut 7 = .ok (.goto 16, 3) := by decide +kernel
theorem dX9_cut_10 : decode cX9_cut 10 = .ok (.lload_n 0, 1) := by decide +kernel
theorem dX9_cut_11 : decode cX9_cut 11 = .ok (.lload_n 2, 1) := by decide +kernel
theorem dX9_cut_12 : decode cX9_cut 12 = .ok (.lneg, 1) := by decide +kernel
theorem dX9_cut_13 : decode cX9_cut 13 = .ok (.lcmp, 1) := by decide +kernel
theorem dX9_cut_14 : decode cX9_cut 14 = .ok (.ifCond .ge 8, 3) := by decide +kernel
theorem dX9_cut_17 : decode cX9_cut 17 = .ok (.lload_n 2, 1) := by decide +kernel
theorem dX9_cut_18 : decode cX9_cut 18 = .ok (.lneg, 1) := by decide +kernel
theorem dX9_cut_19 : decode cX9_cut 19 = .ok (.goto 4, 3) := by decide +kernel
theorem dX9_cut_22 : decode cX9_cut 22 = .ok (.lload_n 0, 1) := by decide +kernel
theorem dX9_cut_23 : decode cX9_cut 23 = .ok (.lreturn, 1) := by decide +kernel
theorem dX9_chainOf_0 : decode cX9_chainOf 0 = .ok (.ldc2_w 255, 3) := by decide +kernel
theorem dX9_chainOf_3 : decode cX9_chainOf 3 = .ok (.lstore 4, 2) := by decide +kernel
theorem dX9_chainOf_5 : decode cX9_chainOf 5 = .ok (.iconst 1, 1) := by decide +kernel
theorem dX9_chainOf_6 : decode cX9_chainOf 6 = .ok (.istore 6, 2) := by decide +kernel
theorem dX9_chainOf_8 : decode cX9_chainOf 8 = .ok (.iload 6, 2) := by decide +kernel
theorem dX9_chainOf_10 : decode cX9_chainOf 10 = .ok (.iload_n 3, 1) := by decide +kernel
theorem dX9_chainOf_11 : decode cX9_chainOf 11 = .ok (.if_icmp .gt 53, 3) := by decide +kernel
theorem dX9_chainOf_14 : decode cX9_chainOf 14 = .ok (.aload_n 0, 1) := by decide +kernel
theorem dX9_chainOf_15 : decode cX9_chainOf 15 = .ok (.iload_n 1, 1) := by decide +kernel
theorem dX9_chainOf_16 : decode cX9_chainOf 16 = .ok (.iload_n 2, 1) := by decide +kernel
theorem dX9_chainOf_17 : decode cX9_chainOf 17 = .ok (.iload 6, 2) := by decide +kernel
theorem dX9_chainOf_19 : decode cX9_chainOf 19 = .ok (.invokevirtual 252, 3) := by decide +kernel
theorem dX9_chainOf_22 : decode cX9_chainOf 22 = .ok (.lconst 0, 1) := by decide +kernel
theorem dX9_chainOf_23 : decode cX9_chainOf 23 = .ok (.lcmp, 1) := by decide +kernel
theorem dX9_chainOf_24 : decode cX9_chainOf 24 = .ok (.ifCond .le 34, 3) := by decide +kernel
theorem dX9_chainOf_27 : decode cX9_chainOf 27 = .ok (.lload 4, 2) := by decide +kernel
theorem dX9_chainOf_29 : decode cX9_chainOf 29 = .ok (.aload_n 0, 1) := by decide +kernel
theorem dX9_chainOf_30 : decode cX9_chainOf 30 = .ok (.iload_n 1, 1) := by decide +kernel
theorem dX9_chainOf_31 : decode cX9_chainOf 31 = .ok (.iload_n 2, 1) := by decide +kernel
theorem dX9_chainOf_32 : decode cX9_chainOf 32 = .ok (.iload 6, 2) := by decide +kernel
theorem dX9_chainOf_34 : decode cX9_chainOf 34 = .ok (.invokevirtual 257, 3) := by decide +kernel
theorem dX9_chainOf_37 : decode cX9_chainOf 37 = .ok (.ldc2_w 260, 3) := by decide +kernel
theorem dX9_chainOf_40 : decode cX9_chainOf 40 = .ok (.invokestatic 262, 3) := by decide +kernel
theorem dX9_chainOf_43 : decode cX9_chainOf 43 = .ok (.lmul, 1) := by decide +kernel
theorem dX9_chainOf_44 : decode cX9_chainOf 44 = .ok (.ldc2_w 255, 3) := by decide +kernel
theorem dX9_chainOf_47 : decode cX9_chainOf 47 = .ok (.invokestatic 193, 3) := by decide +kernel
theorem dX9_chainOf_50 : decode cX9_chainOf 50 = .ok (.ldc2_w 265, 3) := by decide +kernel
theorem dX9_chainOf_53 : decode cX9_chainOf 53 = .ok (.invokestatic 262, 3) := by decide +kernel
theorem dX9_chainOf_56 : decode cX9_chainOf 56 = .ok (.lstore 4, 2) := by decide +kernel
theorem dX9_chainOf_58 : decode cX9_chainOf 58 = .ok (.iinc 6 1, 3) := by decide +kernel
theorem dX9_chainOf_61 : decode cX9_chainOf 61 = .ok (.goto (-53), 3) := by decide +kernel
theorem dX9_chainOf_64 : decode cX9_chainOf 64 = .ok (.lload 4, 2) := by decide +kernel
theorem dX9_chainOf_66 : decode cX9_chainOf 66 = .ok (.lreturn, 1) := by decide +kernel
theorem dX9_chain_0 : decode cX9_chain 0 = .ok (.iload_n 1, 1) := by decide +kernel
theorem dX9_chain_1 : decode cX9_chain 1 = .ok (.i2l, 1) := by decide +kernel
theorem dX9_chain_2 : decode cX9_chain 2 = .ok (.ldc2_w 201, 3) := by decide +kernel
theorem dX9_chain_5 : decode cX9_chain 5 = .ok (.ldc2_w 110, 3) := by decide +kernel
theorem dX9_chain_8 : decode cX9_chain 8 = .ok (.invokestatic 106, 3) := by decide +kernel
theorem dX9_chain_11 : decode cX9_chain 11 = .ok (.ifCond .eq 27, 3) := by decide +kernel
theorem dX9_chain_14 : decode cX9_chain 14 = .ok (.iload_n 2, 1) := by decide +kernel
theorem dX9_chain_15 : decode cX9_chain 15 = .ok (.i2l, 1) := by decide +kernel
theorem dX9_chain_16 : decode cX9_chain 16 = .ok (.lconst 0, 1) := by decide +kernel
theorem dX9_chain_17 : decode cX9_chain 17 = .ok (.ldc2_w 112, 3) := by decide +kernel
theorem dX9_chain_20 : decode cX9_chain 20 = .ok (.invokestatic 106, 3) := by decide +kernel
theorem dX9_chain_23 : decode cX9_chain 23 = .ok (.ifCond .eq 15, 3) := by decide +kernel
theorem dX9_chain_26 : decode cX9_chain 26 = .ok (.iload_n 3, 1) := by decide +kernel
theorem dX9_chain_27 : decode cX9_chain 27 = .ok (.i2l, 1) := by decide +kernel
theorem dX9_chain_28 : decode cX9_chain 28 = .ok (.lconst 0, 1) := by decide +kernel
theorem dX9_chain_29 : decode cX9_chain 29 = .ok (.ldc2_w 122, 3) := by decide +kernel
theorem dX9_chain_32 : decode cX9_chain 32 = .ok (.invokestatic 106, 3) := by decide +kernel
theorem dX9_chain_35 : decode cX9_chain 35 = .ok (.ifCond .ne 7, 3) := by decide +kernel
theorem dX9_chain_38 : decode cX9_chain 38 = .ok (.ldc2_w 189, 3) := by decide +kernel
theorem dX9_chain_41 : decode cX9_chain 41 = .ok (.lreturn, 1) := by decide +kernel
theorem dX9_chain_42 : decode cX9_chain 42 = .ok (.aload_n 0, 1) := by decide +kernel
theorem dX9_chain_43 : decode cX9_chain 43 = .ok (.invokevirtual 186, 3) := by decide +kernel
theorem dX9_chain_46 : decode cX9_chain 46 = .ok (.aload_n 0, 1) := by decide +kernel
theorem dX9_chain_47 : decode cX9_chain 47 = .ok (.iload_n 1, 1) := by decide +kernel
theorem dX9_chain_48 : decode cX9_chain 48 = .ok (.iload_n 2, 1) := by decide +kernel
theorem dX9_chain_49 : decode cX9_chain 49 = .ok (.iload_n 3, 1) := by decide +kernel
theorem dX9_chain_50 : decode cX9_chain 50 = .ok (.invokevirtual 267, 3) := by decide +kernel
theorem dX9_chain_53 : decode cX9_chain 53 = .ok (.lreturn, 1) := by decide +kernel
theorem dX9_part_0 : decode cX9_part 0 = .ok (.iload_n 1, 1) := by decide +kernel
theorem dX9_part_1 : decode cX9_part 1 = .ok (.i2l, 1) := by decide +kernel
theorem dX9_part_2 : decode cX9_part 2 = .ok (.lconst 0, 1) := by decide +kernel
theorem dX9_part_3 : decode cX9_part 3 = .ok (.ldc2_w 110, 3) := by decide +kernel
theorem dX9_part_6 : decode cX9_part 6 = .ok (.invokestatic 106, 3) := by decide +kernel
theorem dX9_part_9 : decode cX9_part 9 = .ok (.ifCond .eq 27, 3) := by decide +kernel
theorem dX9_part_12 : decode cX9_part 12 = .ok (.iload_n 2, 1) := by decide +kernel
theorem dX9_part_13 : decode cX9_part 13 = .ok (.i2l, 1) := by decide +kernel
theorem dX9_part_14 : decode cX9_part 14 = .ok (.lconst 0, 1) := by decide +kernel
theorem dX9_part_15 : decode cX9_part 15 = .ok (.ldc2_w 112, 3) := by decide +kernel
theorem dX9_part_18 : decode cX9_part 18 = .ok (.invokestatic 106, 3) := by decide +kernel
theorem dX9_part_21 : decode cX9_part 21 = .ok (.ifCond .eq 15, 3) := by decide +kernel
theorem dX9_part_24 : decode cX9_part 24 = .ok (.iload_n 3, 1) := by decide +kernel
theorem dX9_part_25 : decode cX9_part 25 = .ok (.i2l, 1) := by decide +kernel
theorem dX9_part_26 : decode cX9_part 26 = .ok (.lconst 1, 1) := by decide +kernel
theorem dX9_part_27 : decode cX9_part 27 = .ok (.ldc2_w 122, 3) := by decide +kernel
theorem dX9_part_30 : decode cX9_part 30 = .ok (.invokestatic 106, 3) := by decide +kernel
theorem dX9_part_33 : decode cX9_part 33 = .ok (.ifCond .ne 7, 3) := by decide +kernel
theorem dX9_part_36 : decode cX9_part 36 = .ok (.ldc2_w 189, 3) := by decide +kernel
theorem dX9_part_39 : decode cX9_part 39 = .ok (.lreturn, 1) := by decide +kernel
theorem dX9_part_40 : decode cX9_part 40 = .ok (.aload_n 0, 1) := by decide +kernel
theorem dX9_part_41 : decode cX9_part 41 = .ok (.invokevirtual 186, 3) := by decide +kernel
theorem dX9_part_44 : decode cX9_part 44 = .ok (.aload_n 0, 1) := by decide +kernel
theorem dX9_part_45 : decode cX9_part 45 = .ok (.iconst (-1), 1) := by decide +kernel
theorem dX9_part_46 : decode cX9_part 46 = .ok (.iload_n 2, 1) := by decide +kernel
theorem dX9_part_47 : decode cX9_part 47 = .ok (.iload_n 3, 1) := by decide +kernel
theorem dX9_part_48 : decode cX9_part 48 = .ok (.invokevirtual 252, 3) := by decide +kernel
theorem dX9_part_51 : decode cX9_part 51 = .ok (.lstore 4, 2) := by decide +kernel
theorem dX9_part_53 : decode cX9_part 53 = .ok (.lload 4, 2) := by decide +kernel
theorem dX9_part_55 : decode cX9_part 55 = .ok (.lconst 0, 1) := by decide +kernel
theorem dX9_part_56 : decode cX9_part 56 = .ok (.lcmp, 1) := by decide +kernel
theorem dX9_part_57 : decode cX9_part 57 = .ok (.ifCond .gt 7, 3) := by decide +kernel
theorem dX9_part_60 : decode cX9_part 60 = .ok (.ldc2_w 191, 3) := by decide +kernel
theorem dX9_part_63 : decode cX9_part 63 = .ok (.lreturn, 1) := by decide +kernel
theorem dX9_part_64 : decode cX9_part 64 = .ok (.iload_n 3, 1) := by decide +kernel
theorem dX9_part_65 : decode cX9_part 65 = .ok (.invokestatic 249, 3) := by decide +kernel
theorem dX9_part_68 : decode cX9_part 68 = .ok (.istore 6, 2) := by decide +kernel
theorem dX9_part_70 : decode cX9_part 70 = .ok (.aload_n 0, 1) := by decide +kernel
theorem dX9_part_71 : decode cX9_part 71 = .ok (.iconst (-1), 1) := by decide +kernel
theorem dX9_part_72 : decode cX9_part 72 = .ok (.iload_n 2, 1) := by decide +kernel
theorem dX9_part_73 : decode cX9_part 73 = .ok (.iload_n 3, 1) := by decide +kernel
theorem dX9_part_74 : decode cX9_part 74 = .ok (.invokevirtual 257, 3) := by decide +kernel
theorem dX9_part_77 : decode cX9_part 77 = .ok (.ldc2_w 255, 3) := by decide +kernel
theorem dX9_part_80 : decode cX9_part 80 = .ok (.lsub, 1) := by decide +kernel
theorem dX9_part_81 : decode cX9_part 81 = .ok (.lstore 7, 2) := by decide +kernel
theorem dX9_part_83 : decode cX9_part 83 = .ok (.iconst 0, 1) := by decide +kernel
theorem dX9_part_84 : decode cX9_part 84 = .ok (.istore 9, 2) := by decide +kernel
theorem dX9_part_86 : decode cX9_part 86 = .ok (.iload 9, 2) := by decide +kernel
theorem dX9_part_88 : decode cX9_part 88 = .ok (.iconst 4, 1) := by decide +kernel
theorem dX9_part_89 : decode cX9_part 89 = .ok (.if_icmp .ge 84, 3) := by decide +kernel
theorem dX9_part_92 : decode cX9_part 92 = .ok (.ldc2_w 255, 3) := by decide +kernel
theorem dX9_part_95 : decode cX9_part 95 = .ok (.aload_n 0, 1) := by decide +kernel
theorem dX9_part_96 : decode cX9_part 96 = .ok (.iload 9, 2) := by decide +kernel
theorem dX9_part_98 : decode cX9_part 98 = .ok (.iload_n 2, 1) := by decide +kernel
theorem dX9_part_99 : decode cX9_part 99 = .ok (.iload_n 3, 1) := by decide +kernel
theorem dX9_part_100 : decode cX9_part 100 = .ok (.iload 6, 2) := by decide +kernel
theorem dX9_part_102 : decode cX9_part 102 = .ok (.invokevirtual 246, 3) := by decide +kernel
theorem dX9_part_105 : decode cX9_part 105 = .ok (.aload_n 0, 1) := by decide +kernel
theorem dX9_part_106 : decode cX9_part 106 = .ok (.iload 9, 2) := by decide +kernel
theorem dX9_part_108 : decode cX9_part 108 = .ok (.iload_n 2, 1) := by decide +kernel
theorem dX9_part_109 : decode cX9_part 109 = .ok (.iload_n 3, 1) := by decide +kernel
theorem dX9_part_110 : decode cX9_part 110 = .ok (.iconst 1, 1) := by decide +kernel
theorem dX9_part_111 : decode cX9_part 111 = .ok (.isub, 1) := by decide +kernel
theorem dX9_part_112 : decode cX9_part 112 = .ok (.iload 6, 2) := by decide +kernel
theorem dX9_part_114 : decode cX9_part 114 = .ok (.invokevirtual 246, 3) := by decide +kernel
theorem dX9_part_117 : decode cX9_part 117 = .ok (.lsub, 1) := by decide +kernel
theorem dX9_part_118 : decode cX9_part 118 = .ok (.lmul, 1) := by decide +kernel
theorem dX9_part_119 : decode cX9_part 119 = .ok (.lstore 10, 2) := by decide +kernel
theorem dX9_part_121 : decode cX9_part 121 = .ok (.aload_n 0, 1) := by decide +kernel
theorem dX9_part_122 : decode cX9_part 122 = .ok (.getfield 46, 3) := by decide +kernel
theorem dX9_part_125 : decode cX9_part 125 = .ok (.iload 9, 2) := by decide +kernel
theorem dX9_part_127 : decode cX9_part 127 = .ok (.lload 10, 2) := by decide +kernel
theorem dX9_part_129 : decode cX9_part 129 = .ok (.lload 4, 2) := by decide +kernel
theorem dX9_part_131 : decode cX9_part 131 = .ok (.invokestatic 193, 3) := by decide +kernel
theorem dX9_part_134 : decode cX9_part 134 = .ok (.lastore, 1) := by decide +kernel
theorem dX9_part_135 : decode cX9_part 135 = .ok (.aload_n 0, 1) := by decide +kernel
theorem dX9_part_136 : decode cX9_part 136 = .ok (.getfield 49, 3) := by decide +kernel
theorem dX9_part_139 : decode cX9_part 139 = .ok (.iload 9, 2) := by decide +kernel
theorem dX9_part_141 : decode cX9_part 141 = .ok (.lload 10, 2) := by decide +kernel
theorem dX9_part_143 : decode cX9_part 143 = .ok (.aload_n 0, 1) := by decide +kernel
theorem dX9_part_144 : decode cX9_part 144 = .ok (.getfield 46, 3) := by decide +kernel
theorem dX9_part_147 : decode cX9_part 147 = .ok (.iload 9, 2) := by decide +kernel
theorem dX9_part_149 : decode cX9_part 149 = .ok (.laload, 1) := by decide +kernel
theorem dX9_part_150 : decode cX9_part 150 = .ok (.lload 4, 2) := by decide +kernel
theorem dX9_part_152 : decode cX9_part 152 = .ok (.lmul, 1) := by decide +kernel
theorem dX9_part_153 : decode cX9_part 153 = .ok (.lsub, 1) := by decide +kernel
theorem dX9_part_154 : decode cX9_part 154 = .ok (.lastore, 1) := by decide +kernel
theorem dX9_part_155 : decode cX9_part 155 = .ok (.lload 7, 2) := by decide +kernel
theorem dX9_part_157 : decode cX9_part 157 = .ok (.aload_n 0, 1) := by decide +kernel
theorem dX9_part_158 : decode cX9_part 158 = .ok (.getfield 46, 3) := by decide +kernel
theorem dX9_part_161 : decode cX9_part 161 = .ok (.iload 9, 2) := by decide +kernel
theorem dX9_part_163 : decode cX9_part 163 = .ok (.laload, 1) := by decide +kernel
theorem dX9_part_164 : decode cX9_part 164 = .ok (.lsub, 1) := by decide +kernel
theorem dX9_part_165 : decode cX9_part 165 = .ok (.lstore 7, 2) := by decide +kernel
theorem dX9_part_167 : decode cX9_part 167 = .ok (.iinc 9 1, 3) := by decide +kernel
theorem dX9_part_170 : decode cX9_part 170 = .ok (.goto (-84), 3) := by decide +kernel
theorem dX9_part_173 : decode cX9_part 173 = .ok (.aload_n 0, 1) := by decide +kernel
theorem dX9_part_174 : decode cX9_part 174 = .ok (.lload 7, 2) := by decide +kernel
theorem dX9_part_176 : decode cX9_part 176 = .ok (.iconst 4, 1) := by decide +kernel
theorem dX9_part_177 : decode cX9_part 177 = .ok (.invokevirtual 197, 3) := by decide +kernel
theorem dX9_part_180 : decode cX9_part 180 = .ok (.aload_n 0, 1) := by decide +kernel
theorem dX9_part_181 : decode cX9_part 181 = .ok (.getfield 46, 3) := by decide +kernel
theorem dX9_part_184 : decode cX9_part 184 = .ok (.iload_n 1, 1) := by decide +kernel
theorem dX9_part_185 : decode cX9_part 185 = .ok (.laload, 1) := by decide +kernel
theorem dX9_part_186 : decode cX9_part 186 = .ok (.lreturn, 1) := by decide +kernel
theorem dX9_apart_0 : decode cX9_apart 0 = .ok (.iload_n 1, 1) := by decide +kernel
theorem dX9_apart_1 : decode cX9_apart 1 = .ok (.i2l, 1) := by decide +kernel
theorem dX9_apart_2 : decode cX9_apart 2 = .ok (.lconst 0, 1) := by decide +kernel
theorem dX9_apart_3 : decode cX9_apart 3 = .ok (.ldc2_w 112, 3) := by decide +kernel
theorem dX9_apart_6 : decode cX9_apart 6 = .ok (.invokestatic 106, 3) := by decide +kernel
theorem dX9_apart_9 : decode cX9_apart 9 = .ok (.ifCond .eq 15, 3) := by decide +kernel
theorem dX9_apart_12 : decode cX9_apart 12 = .ok (.iload_n 2, 1) := by decide +kernel
theorem dX9_apart_13 : decode cX9_apart 13 = .ok (.i2l, 1) := by decide +kernel
theorem dX9_apart_14 : decode cX9_apart 14 = .ok (.lconst 0, 1) := by decide +kernel
theorem dX9_apart_15 : decode cX9_apart 15 = .ok (.ldc2_w 122, 3) := by decide +kernel
theorem dX9_apart_18 : decode cX9_apart 18 = .ok (.invokestatic 106, 3) := by decide +kernel
theorem dX9_apart_21 : decode cX9_apart 21 = .ok (.ifCond .ne 7, 3) := by decide +kernel
theorem dX9_apart_24 : decode cX9_apart 24 = .ok (.ldc2_w 189, 3) := by decide +kernel
theorem dX9_apart_27 : decode cX9_apart 27 = .ok (.lreturn, 1) := by decide +kernel
theorem dX9_apart_28 : decode cX9_apart 28 = .ok (.aload_n 0, 1) := by decide +kernel
theorem dX9_apart_29 : decode cX9_apart 29 = .ok (.invokevirtual 186, 3) := by decide +kernel
theorem dX9_apart_32 : decode cX9_apart 32 = .ok (.lconst 0, 1) := by decide +kernel
theorem dX9_apart_33 : decode cX9_apart 33 = .ok (.lstore_n 3, 1) := by decide +kernel
theorem dX9_apart_34 : decode cX9_apart 34 = .ok (.iconst 0, 1) := by decide +kernel
theorem dX9_apart_35 : decode cX9_apart 35 = .ok (.istore 5, 2) := by decide +kernel
theorem dX9_apart_37 : decode cX9_apart 37 = .ok (.iload 5, 2) := by decide +kernel
theorem dX9_apart_39 : decode cX9_apart 39 = .ok (.iconst 4, 1) := by decide +kernel
theorem dX9_apart_40 : decode cX9_apart 40 = .ok (.if_icmp .ge 36, 3) := by decide +kernel
theorem dX9_apart_43 : decode cX9_apart 43 = .ok (.lload_n 3, 1) := by decide +kernel
theorem dX9_apart_44 : decode cX9_apart 44 = .ok (.aload_n 0, 1) := by decide +kernel
theorem dX9_apart_45 : decode cX9_apart 45 = .ok (.iload 5, 2) := by decide +kernel
theorem dX9_apart_47 : decode cX9_apart 47 = .ok (.iload_n 1, 1) := by decide +kernel
theorem dX9_apart_48 : decode cX9_apart 48 = .ok (.iconst 0, 1) := by decide +kernel
theorem dX9_apart_49 : decode cX9_apart 49 = .ok (.iconst 0, 1) := by decide +kernel
theorem dX9_apart_50 : decode cX9_apart 50 = .ok (.invokevirtual 246, 3) := by decide +kernel
theorem dX9_apart_53 : decode cX9_apart 53 = .ok (.aload_n 0, 1) := by decide +kernel
theorem dX9_apart_54 : decode cX9_apart 54 = .ok (.iload 5, 2) := by decide +kernel
theorem dX9_apart_56 : decode cX9_apart 56 = .ok (.iload_n 1, 1) := by decide +kernel
theorem dX9_apart_57 : decode cX9_apart 57 = .ok (.iload_n 2, 1) := by decide +kernel
theorem dX9_apart_58 : decode cX9_apart 58 = .ok (.invokevirtual 267, 3) := by decide +kernel
theorem dX9_apart_61 : decode cX9_apart 61 = .ok (.lmul, 1) := by decide +kernel
theorem dX9_apart_62 : decode cX9_apart 62 = .ok (.ldc2_w 255, 3) := by decide +kernel
theorem dX9_apart_65 : decode cX9_apart 65 = .ok (.invokestatic 193, 3) := by decide +kernel
theorem dX9_apart_68 : decode cX9_apart 68 = .ok (.ladd, 1) := by decide +kernel
theorem dX9_apart_69 : decode cX9_apart 69 = .ok (.lstore_n 3, 1) := by decide +kernel
theorem dX9_apart_70 : decode cX9_apart 70 = .ok (.iinc 5 1, 3) := by decide +kernel
theorem dX9_apart_73 : decode cX9_apart 73 = .ok (.goto (-36), 3) := by decide +kernel
theorem dX9_apart_76 : decode cX9_apart 76 = .ok (.lload_n 3, 1) := by decide +kernel
theorem dX9_apart_77 : decode cX9_apart 77 = .ok (.aload_n 0, 1) := by decide +kernel
theorem dX9_apart_78 : decode cX9_apart 78 = .ok (.iconst (-1), 1) := by decide +kernel
theorem dX9_apart_79 : decode cX9_apart 79 = .ok (.iload_n 1, 1) := by decide +kernel
theorem dX9_apart_80 : decode cX9_apart 80 = .ok (.iconst 0, 1) := by decide +kernel
theorem dX9_apart_81 : decode cX9_apart 81 = .ok (.iconst 0, 1) := by decide +kernel
theorem dX9_apart_82 : decode cX9_apart 82 = .ok (.invokevirtual 246, 3) := by decide +kernel
theorem dX9_apart_85 : decode cX9_apart 85 = .ok (.aload_n 0, 1) := by decide +kernel
theorem dX9_apart_86 : decode cX9_apart 86 = .ok (.iconst (-1), 1) := by decide +kernel
theorem dX9_apart_87 : decode cX9_apart 87 = .ok (.iload_n 1, 1) := by decide +kernel
theorem dX9_apart_88 : decode cX9_apart 88 = .ok (.iload_n 2, 1) := by decide +kernel
theorem dX9_apart_89 : decode cX9_apart 89 = .ok (.invokevirtual 267, 3) := by decide +kernel
theorem dX9_apart_92 : decode cX9_apart 92 = .ok (.lmul, 1) := by decide +kernel
theorem dX9_apart_93 : decode cX9_apart 93 = .ok (.ldc2_w 255, 3) := by decide +kernel
theorem dX9_apart_96 : decode cX9_apart 96 = .ok (.invokestatic 193, 3) := by decide +kernel
theorem dX9_apart_99 : decode cX9_apart 99 = .ok (.lsub, 1) := by decide +kernel
theorem dX9_apart_100 : decode cX9_apart 100 = .ok (.lreturn, 1) := by decide +kernel
theorem dX9_trade_0 : decode cX9_trade 0 = .ok (.iload_n 1, 1) := by decide +kernel
theorem dX9_trade_1 : decode cX9_trade 1 = .ok (.iload_n 2, 1) := by decide +kernel
theorem dX9_trade_2 : decode cX9_trade 2 = .ok (.iload_n 3, 1) := by decide +kernel
theorem dX9_trade_3 : decode cX9_trade 3 = .ok (.invokestatic 220, 3) := by decide +kernel
theorem dX9_trade_6 : decode cX9_trade 6 = .ok (.ifCond .eq 29, 3) := by decide +kernel
theorem dX9_trade_9 : decode cX9_trade 9 = .ok (.iload 4, 2) := by decide +kernel
theorem dX9_trade_11 : decode cX9_trade 11 = .ok (.i2l, 1) := by decide +kernel
theorem dX9_trade_12 : decode cX9_trade 12 = .ok (.lconst 0, 1) := by decide +kernel
theorem dX9_trade_13 : decode cX9_trade 13 = .ok (.lconst 1, 1) := by decide +kernel
theorem dX9_trade_14 : decode cX9_trade 14 = .ok (.invokestatic 106, 3) := by decide +kernel
theorem dX9_trade_17 : decode cX9_trade 17 = .ok (.ifCond .eq 18, 3) := by decide +kernel
theorem dX9_trade_20 : decode cX9_trade 20 = .ok (.iload 5, 2) := by decide +kernel
theorem dX9_trade_22 : decode cX9_trade 22 = .ok (.i2l, 1) := by decide +kernel
theorem dX9_trade_23 : decode cX9_trade 23 = .ok (.ldc2_w 201, 3) := by decide +kernel
theorem dX9_trade_26 : decode cX9_trade 26 = .ok (.ldc2_w 159, 3) := by decide +kernel
theorem dX9_trade_29 : decode cX9_trade 29 = .ok (.invokestatic 106, 3) := by decide +kernel
theorem dX9_trade_32 : decode cX9_trade 32 = .ok (.ifCond .ne 6, 3) := by decide +kernel
theorem dX9_trade_35 : decode cX9_trade 35 = .ok (.bipush (-2), 2) := by decide +kernel
theorem dX9_trade_37 : decode cX9_trade 37 = .ok (.ireturn, 1) := by decide +kernel
theorem dX9_trade_38 : decode cX9_trade 38 = .ok (.bipush 96, 2) := by decide +kernel
theorem dX9_trade_40 : decode cX9_trade 40 = .ok (.iload_n 1, 1) := by decide +kernel
theorem dX9_trade_41 : decode cX9_trade 41 = .ok (.imul, 1) := by decide +kernel
theorem dX9_trade_42 : decode cX9_trade 42 = .ok (.bipush 24, 2) := by decide +kernel
theorem dX9_trade_44 : decode cX9_trade 44 = .ok (.iload_n 2, 1) := by decide +kernel
theorem dX9_trade_45 : decode cX9_trade 45 = .ok (.imul, 1) := by decide +kernel
theorem dX9_trade_46 : decode cX9_trade 46 = .ok (.iadd, 1) := by decide +kernel
theorem dX9_trade_47 : decode cX9_trade 47 = .ok (.iconst 2, 1) := by decide +kernel
theorem dX9_trade_48 : decode cX9_trade 48 = .ok (.iload_n 3, 1) := by decide +kernel
theorem dX9_trade_49 : decode cX9_trade 49 = .ok (.imul, 1) := by decide +kernel
theorem dX9_trade_50 : decode cX9_trade 50 = .ok (.iadd, 1) := by decide +kernel
theorem dX9_trade_51 : decode cX9_trade 51 = .ok (.iload 4, 2) := by decide +kernel
theorem dX9_trade_53 : decode cX9_trade 53 = .ok (.iadd, 1) := by decide +kernel
theorem dX9_trade_54 : decode cX9_trade 54 = .ok (.istore 6, 2) := by decide +kernel
theorem dX9_trade_56 : decode cX9_trade 56 = .ok (.aload_n 0, 1) := by decide +kernel
theorem dX9_trade_57 : decode cX9_trade 57 = .ok (.getfield 70, 3) := by decide +kernel
theorem dX9_trade_60 : decode cX9_trade 60 = .ok (.iload 6, 2) := by decide +kernel
theorem dX9_trade_62 : decode cX9_trade 62 = .ok (.iaload, 1) := by decide +kernel
theorem dX9_trade_63 : decode cX9_trade 63 = .ok (.istore 7, 2) := by decide +kernel
theorem dX9_trade_65 : decode cX9_trade 65 = .ok (.aload_n 0, 1) := by decide +kernel
theorem dX9_trade_66 : decode cX9_trade 66 = .ok (.getfield 70, 3) := by decide +kernel
theorem dX9_trade_69 : decode cX9_trade 69 = .ok (.iload 6, 2) := by decide +kernel
theorem dX9_trade_71 : decode cX9_trade 71 = .ok (.iload 5, 2) := by decide +kernel
theorem dX9_trade_73 : decode cX9_trade 73 = .ok (.iastore, 1) := by decide +kernel
theorem dX9_trade_74 : decode cX9_trade 74 = .ok (.iload 7, 2) := by decide +kernel
theorem dX9_trade_76 : decode cX9_trade 76 = .ok (.ireturn, 1) := by decide +kernel
theorem dX9_precise_0 : decode cX9_precise 0 = .ok (.iload_n 1, 1) := by decide +kernel
theorem dX9_precise_1 : decode cX9_precise 1 = .ok (.i2l, 1) := by decide +kernel
theorem dX9_precise_2 : decode cX9_precise 2 = .ok (.lconst 0, 1) := by decide +kernel
theorem dX9_precise_3 : decode cX9_precise 3 = .ok (.lconst 1, 1) := by decide +kernel
theorem dX9_precise_4 : decode cX9_precise 4 = .ok (.invokestatic 106, 3) := by decide +kernel
theorem dX9_precise_7 : decode cX9_precise 7 = .ok (.ifCond .eq 15, 3) := by decide +kernel
theorem dX9_precise_10 : decode cX9_precise 10 = .ok (.iload_n 2, 1) := by decide +kernel
theorem dX9_precise_11 : decode cX9_precise 11 = .ok (.i2l, 1) := by decide +kernel
theorem dX9_precise_12 : decode cX9_precise 12 = .ok (.lconst 1, 1) := by decide +kernel
theorem dX9_precise_13 : decode cX9_precise 13 = .ok (.ldc2_w 153, 3) := by decide +kernel
theorem dX9_precise_16 : decode cX9_precise 16 = .ok (.invokestatic 106, 3) := by decide +kernel
theorem dX9_precise_19 : decode cX9_precise 19 = .ok (.ifCond .ne 6, 3) := by decide +kernel
theorem dX9_precise_22 : decode cX9_precise 22 = .ok (.bipush (-2), 2) := by decide +kernel
theorem dX9_precise_24 : decode cX9_precise 24 = .ok (.ireturn, 1) := by decide +kernel
theorem dX9_precise_25 : decode cX9_precise 25 = .ok (.aload_n 0, 1) := by decide +kernel
theorem dX9_precise_26 : decode cX9_precise 26 = .ok (.getfield 73, 3) := by decide +kernel
theorem dX9_precise_29 : decode cX9_precise 29 = .ok (.iload_n 1, 1) := by decide +kernel
theorem dX9_precise_30 : decode cX9_precise 30 = .ok (.iaload, 1) := by decide +kernel
theorem dX9_precise_31 : decode cX9_precise 31 = .ok (.istore_n 3, 1) := by decide +kernel
theorem dX9_precise_32 : decode cX9_precise 32 = .ok (.aload_n 0, 1) := by decide +kernel
theorem dX9_precise_33 : decode cX9_precise 33 = .ok (.getfield 73, 3) := by decide +kernel
theorem dX9_precise_36 : decode cX9_precise 36 = .ok (.iload_n 1, 1) := by decide +kernel
theorem dX9_precise_37 : decode cX9_precise 37 = .ok (.iload_n 2, 1) := by decide +kernel
theorem dX9_precise_38 : decode cX9_precise 38 = .ok (.iastore, 1) := by decide +kernel
theorem dX9_precise_39 : decode cX9_precise 39 = .ok (.iload_n 3, 1) := by decide +kernel
theorem dX9_precise_40 : decode cX9_precise 40 = .ok (.ireturn, 1) := by decide +kernel
theorem dX9_soldBy_0 : decode cX9_soldBy 0 = .ok (.aload_n 0, 1) := by decide +kernel
theorem dX9_soldBy_1 : decode cX9_soldBy 1 = .ok (.getfield 70, 3) := by decide +kernel
theorem dX9_soldBy_4 : decode cX9_soldBy 4 = .ok (.bipush 96, 2) := by decide +kernel
theorem dX9_soldBy_6 : decode cX9_soldBy 6 = .ok (.iload_n 1, 1) := by decide +kernel
theorem dX9_soldBy_7 : decode cX9_soldBy 7 = .ok (.imul, 1) := by decide +kernel
theorem dX9_soldBy_8 : decode cX9_soldBy 8 = .ok (.bipush 24, 2) := by decide +kernel
theorem dX9_soldBy_10 : decode cX9_soldBy 10 = .ok (.iload_n 2, 1) := by decide +kernel
theorem dX9_soldBy_11 : decode cX9_soldBy 11 = .ok (.imul, 1) := by decide +kernel
theorem dX9_soldBy_12 : decode cX9_soldBy 12 = .ok (.iadd, 1) := by decide +kernel
theorem dX9_soldBy_13 : decode cX9_soldBy 13 = .ok (.iconst 2, 1) := by decide +kernel
theorem dX9_soldBy_14 : decode cX9_soldBy 14 = .ok (.iload_n 3, 1) := by decide +kernel
theorem dX9_soldBy_15 : decode cX9_soldBy 15 = .ok (.imul, 1) := by decide +kernel
theorem dX9_soldBy_16 : decode cX9_soldBy 16 = .ok (.iadd, 1) := by decide +kernel
theorem dX9_soldBy_17 : decode cX9_soldBy 17 = .ok (.iaload, 1) := by decide +kernel
theorem dX9_soldBy_18 : decode cX9_soldBy 18 = .ok (.ireturn, 1) := by decide +kernel
theorem dX9_boughtFrom_0 : decode cX9_boughtFrom 0 = .ok (.aload_n 0, 1) := by decide +kernel
theorem dX9_boughtFrom_1 : decode cX9_boughtFrom 1 = .ok (.getfield 70, 3) := by decide +kernel
theorem dX9_boughtFrom_4 : decode cX9_boughtFrom 4 = .ok (.bipush 96, 2) := by decide +kernel
theorem dX9_boughtFrom_6 : decode cX9_boughtFrom 6 = .ok (.iconst 1, 1) := by decide +kernel
theorem dX9_boughtFrom_7 : decode cX9_boughtFrom 7 = .ok (.iload_n 1, 1) := by decide +kernel
theorem dX9_boughtFrom_8 : decode cX9_boughtFrom 8 = .ok (.isub, 1) := by decide +kernel
theorem dX9_boughtFrom_9 : decode cX9_boughtFrom 9 = .ok (.imul, 1) := by decide +kernel
theorem dX9_boughtFrom_10 : decode cX9_boughtFrom 10 = .ok (.bipush 24, 2) := by decide +kernel
theorem dX9_boughtFrom_12 : decode cX9_boughtFrom 12 = .ok (.iload_n 2, 1) := by decide +kernel
theorem dX9_boughtFrom_13 : decode cX9_boughtFrom 13 = .ok (.imul, 1) := by decide +kernel
theorem dX9_boughtFrom_14 : decode cX9_boughtFrom 14 = .ok (.iadd, 1) := by decide +kernel
theorem dX9_boughtFrom_15 : decode cX9_boughtFrom 15 = .ok (.iconst 2, 1) := by decide +kernel
theorem dX9_boughtFrom_16 : decode cX9_boughtFrom 16 = .ok (.iload_n 3, 1) := by decide +kernel
theorem dX9_boughtFrom_17 : decode cX9_boughtFrom 17 = .ok (.imul, 1) := by decide +kernel
theorem dX9_boughtFrom_18 : decode cX9_boughtFrom 18 = .ok (.iadd, 1) := by decide +kernel
theorem dX9_boughtFrom_19 : decode cX9_boughtFrom 19 = .ok (.iconst 1, 1) := by decide +kernel
theorem dX9_boughtFrom_20 : decode cX9_boughtFrom 20 = .ok (.iadd, 1) := by decide +kernel
theorem dX9_boughtFrom_21 : decode cX9_boughtFrom 21 = .ok (.iaload, 1) := by decide +kernel
theorem dX9_boughtFrom_22 : decode cX9_boughtFrom 22 = .ok (.ireturn, 1) := by decide +kernel
theorem dX9_hidden_0 : decode cX9_hidden 0 = .ok (.iload_n 1, 1) := by decide +kernel
theorem dX9_hidden_1 : decode cX9_hidden 1 = .ok (.iload_n 2, 1) := by decide +kernel
theorem dX9_hidden_2 : decode cX9_hidden 2 = .ok (.iload_n 3, 1) := by decide +kernel
theorem dX9_hidden_3 : decode cX9_hidden 3 = .ok (.invokestatic 220, 3) := by decide +kernel
theorem dX9_hidden_6 : decode cX9_hidden 6 = .ok (.ifCond .ne 7, 3) := by decide +kernel
theorem dX9_hidden_9 : decode cX9_hidden 9 = .ok (.ldc_w 270, 3) := by decide +kernel
theorem dX9_hidden_12 : decode cX9_hidden 12 = .ok (.ireturn, 1) := by decide +kernel
theorem dX9_hidden_13 : decode cX9_hidden 13 = .ok (.aload_n 0, 1) := by decide +kernel
theorem dX9_hidden_14 : decode cX9_hidden 14 = .ok (.iload_n 1, 1) := by decide +kernel
theorem dX9_hidden_15 : decode cX9_hidden 15 = .ok (.iload_n 2, 1) := by decide +kernel
theorem dX9_hidden_16 : decode cX9_hidden 16 = .ok (.iload_n 3, 1) := by decide +kernel
theorem dX9_hidden_17 : decode cX9_hidden 17 = .ok (.invokevirtual 271, 3) := by decide +kernel
theorem dX9_hidden_20 : decode cX9_hidden 20 = .ok (.istore 4, 2) := by decide +kernel
theorem dX9_hidden_22 : decode cX9_hidden 22 = .ok (.aload_n 0, 1) := by decide +kernel
theorem dX9_hidden_23 : decode cX9_hidden 23 = .ok (.iload_n 1, 1) := by decide +kernel
theorem dX9_hidden_24 : decode cX9_hidden 24 = .ok (.iload_n 2, 1) := by decide +kernel
theorem dX9_hidden_25 : decode cX9_hidden 25 = .ok (.iload_n 3, 1) := by decide +kernel
theorem dX9_hidden_26 : decode cX9_hidden 26 = .ok (.invokevirtual 275, 3) := by decide +kernel
theorem dX9_hidden_29 : decode cX9_hidden 29 = .ok (.istore 5, 2) := by decide +kernel
theorem dX9_hidden_31 : decode cX9_hidden 31 = .ok (.iload 4, 2) := by decide +kernel
theorem dX9_hidden_33 : decode cX9_hidden 33 = .ok (.iconst (-1), 1) := by decide +kernel
theorem dX9_hidden_34 : decode cX9_hidden 34 = .ok (.if_icmp .eq 9, 3) := by decide +kernel
theorem dX9_hidden_37 : decode cX9_hidden 37 = .ok (.iload 5, 2) := by decide +kernel
theorem dX9_hidden_39 : decode cX9_hidden 39 = .ok (.iconst (-1), 1) := by decide +kernel
theorem dX9_hidden_40 : decode cX9_hidden 40 = .ok (.if_icmp .ne 8, 3) := by decide +kernel
theorem dX9_hidden_43 : decode cX9_hidden 43 = .ok (.ldc 185, 2) := by decide +kernel
theorem dX9_hidden_45 : decode cX9_hidden 45 = .ok (.goto 8, 3) := by decide +kernel
theorem dX9_hidden_48 : decode cX9_hidden 48 = .ok (.iload 5, 2) := by decide +kernel
theorem dX9_hidden_50 : decode cX9_hidden 50 = .ok (.iload 4, 2) := by decide +kernel
theorem dX9_hidden_52 : decode cX9_hidden 52 = .ok (.isub, 1) := by decide +kernel
theorem dX9_hidden_53 : decode cX9_hidden 53 = .ok (.ireturn, 1) := by decide +kernel
theorem dX9_agreed_0 : decode cX9_agreed 0 = .ok (.iload_n 1, 1) := by decide +kernel
theorem dX9_agreed_1 : decode cX9_agreed 1 = .ok (.iload_n 2, 1) := by decide +kernel
theorem dX9_agreed_2 : decode cX9_agreed 2 = .ok (.iload_n 3, 1) := by decide +kernel
theorem dX9_agreed_3 : decode cX9_agreed 3 = .ok (.invokestatic 220, 3) := by decide +kernel
theorem dX9_agreed_6 : decode cX9_agreed 6 = .ok (.ifCond .ne 6, 3) := by decide +kernel
theorem dX9_agreed_9 : decode cX9_agreed 9 = .ok (.bipush (-2), 2) := by decide +kernel
theorem dX9_agreed_11 : decode cX9_agreed 11 = .ok (.ireturn, 1) := by decide +kernel
theorem dX9_agreed_12 : decode cX9_agreed 12 = .ok (.aload_n 0, 1) := by decide +kernel
theorem dX9_agreed_13 : decode cX9_agreed 13 = .ok (.iload_n 1, 1) := by decide +kernel
theorem dX9_agreed_14 : decode cX9_agreed 14 = .ok (.iload_n 2, 1) := by decide +kernel
theorem dX9_agreed_15 : decode cX9_agreed 15 = .ok (.iload_n 3, 1) := by decide +kernel
theorem dX9_agreed_16 : decode cX9_agreed 16 = .ok (.invokevirtual 271, 3) := by decide +kernel
theorem dX9_agreed_19 : decode cX9_agreed 19 = .ok (.istore 4, 2) := by decide +kernel
theorem dX9_agreed_21 : decode cX9_agreed 21 = .ok (.aload_n 0, 1) := by decide +kernel
theorem dX9_agreed_22 : decode cX9_agreed 22 = .ok (.iload_n 1, 1) := by decide +kernel
theorem dX9_agreed_23 : decode cX9_agreed 23 = .ok (.iload_n 2, 1) := by decide +kernel
theorem dX9_agreed_24 : decode cX9_agreed 24 = .ok (.iload_n 3, 1) := by decide +kernel
theorem dX9_agreed_25 : decode cX9_agreed 25 = .ok (.invokevirtual 275, 3) := by decide +kernel
theorem dX9_agreed_28 : decode cX9_agreed 28 = .ok (.istore 5, 2) := by decide +kernel
theorem dX9_agreed_30 : decode cX9_agreed 30 = .ok (.iload 4, 2) := by decide +kernel
theorem dX9_agreed_32 : decode cX9_agreed 32 = .ok (.iconst (-1), 1) := by decide +kernel
theorem dX9_agreed_33 : decode cX9_agreed 33 = .ok (.if_icmp .eq 9, 3) := by decide +kernel
theorem dX9_agreed_36 : decode cX9_agreed 36 = .ok (.iload 5, 2) := by decide +kernel
theorem dX9_agreed_38 : decode cX9_agreed 38 = .ok (.iconst (-1), 1) := by decide +kernel
theorem dX9_agreed_39 : decode cX9_agreed 39 = .ok (.if_icmp .ne 33, 3) := by decide +kernel
theorem dX9_agreed_42 : decode cX9_agreed 42 = .ok (.iload 4, 2) := by decide +kernel
theorem dX9_agreed_44 : decode cX9_agreed 44 = .ok (.iconst (-1), 1) := by decide +kernel
theorem dX9_agreed_45 : decode cX9_agreed 45 = .ok (.if_icmp .ne 13, 3) := by decide +kernel
theorem dX9_agreed_48 : decode cX9_agreed 48 = .ok (.iload 5, 2) := by decide +kernel
theorem dX9_agreed_50 : decode cX9_agreed 50 = .ok (.iconst (-1), 1) := by decide +kernel
theorem dX9_agreed_51 : decode cX9_agreed 51 = .ok (.if_icmp .ne 7, 3) := by decide +kernel
theorem dX9_agreed_54 : decode cX9_agreed 54 = .ok (.iconst 0, 1) := by decide +kernel
theorem dX9_agreed_55 : decode cX9_agreed 55 = .ok (.goto 16, 3) := by decide +kernel
theorem dX9_agreed_58 : decode cX9_agreed 58 = .ok (.iload 4, 2) := by decide +kernel
theorem dX9_agreed_60 : decode cX9_agreed 60 = .ok (.iconst (-1), 1) := by decide +kernel
theorem dX9_agreed_61 : decode cX9_agreed 61 = .ok (.if_icmp .ne 8, 3) := by decide +kernel
theorem dX9_agreed_64 : decode cX9_agreed 64 = .ok (.iload 5, 2) := by decide +kernel
theorem dX9_agreed_66 : decode cX9_agreed 66 = .ok (.goto 5, 3) := by decide +kernel
theorem dX9_agreed_69 : decode cX9_agreed 69 = .ok (.iload 4, 2) := by decide +kernel
theorem dX9_agreed_71 : decode cX9_agreed 71 = .ok (.ireturn, 1) := by decide +kernel
theorem dX9_agreed_72 : decode cX9_agreed 72 = .ok (.aload_n 0, 1) := by decide +kernel
theorem dX9_agreed_73 : decode cX9_agreed 73 = .ok (.getfield 73, 3) := by decide +kernel
theorem dX9_agreed_76 : decode cX9_agreed 76 = .ok (.iconst 0, 1) := by decide +kernel
theorem dX9_agreed_77 : decode cX9_agreed 77 = .ok (.iaload, 1) := by decide +kernel
theorem dX9_agreed_78 : decode cX9_agreed 78 = .ok (.aload_n 0, 1) := by decide +kernel
theorem dX9_agreed_79 : decode cX9_agreed 79 = .ok (.getfield 73, 3) := by decide +kernel
theorem dX9_agreed_82 : decode cX9_agreed 82 = .ok (.iconst 1, 1) := by decide +kernel
theorem dX9_agreed_83 : decode cX9_agreed 83 = .ok (.iaload, 1) := by decide +kernel
theorem dX9_agreed_84 : decode cX9_agreed 84 = .ok (.iadd, 1) := by decide +kernel
theorem dX9_agreed_85 : decode cX9_agreed 85 = .ok (.istore 6, 2) := by decide +kernel
theorem dX9_agreed_87 : decode cX9_agreed 87 = .ok (.iconst 2, 1) := by decide +kernel
theorem dX9_agreed_88 : decode cX9_agreed 88 = .ok (.aload_n 0, 1) := by decide +kernel
theorem dX9_agreed_89 : decode cX9_agreed 89 = .ok (.getfield 73, 3) := by decide +kernel
theorem dX9_agreed_92 : decode cX9_agreed 92 = .ok (.iload_n 1, 1) := by decide +kernel
theorem dX9_agreed_93 : decode cX9_agreed 93 = .ok (.iaload, 1) := by decide +kernel
theorem dX9_agreed_94 : decode cX9_agreed 94 = .ok (.iload 4, 2) := by decide +kernel
theorem dX9_agreed_96 : decode cX9_agreed 96 = .ok (.imul, 1) := by decide +kernel
theorem dX9_agreed_97 : decode cX9_agreed 97 = .ok (.aload_n 0, 1) := by decide +kernel
theorem dX9_agreed_98 : decode cX9_agreed 98 = .ok (.getfield 73, 3) := by decide +kernel
theorem dX9_agreed_101 : decode cX9_agreed 101 = .ok (.iconst 1, 1) := by decide +kernel
theorem dX9_agreed_102 : decode cX9_agreed 102 = .ok (.iload_n 1, 1) := by decide +kernel
theorem dX9_agreed_103 : decode cX9_agreed 103 = .ok (.isub, 1) := by decide +kernel
theorem dX9_agreed_104 : decode cX9_agreed 104 = .ok (.iaload, 1) := by decide +kernel
theorem dX9_agreed_105 : decode cX9_agreed 105 = .ok (.iload 5, 2) := by decide +kernel
theorem dX9_agreed_107 : decode cX9_agreed 107 = .ok (.imul, 1) := by decide +kernel
theorem dX9_agreed_108 : decode cX9_agreed 108 = .ok (.iadd, 1) := by decide +kernel
theorem dX9_agreed_109 : decode cX9_agreed 109 = .ok (.imul, 1) := by decide +kernel
theorem dX9_agreed_110 : decode cX9_agreed 110 = .ok (.iload 6, 2) := by decide +kernel
theorem dX9_agreed_112 : decode cX9_agreed 112 = .ok (.iadd, 1) := by decide +kernel
theorem dX9_agreed_113 : decode cX9_agreed 113 = .ok (.iconst 2, 1) := by decide +kernel
theorem dX9_agreed_114 : decode cX9_agreed 114 = .ok (.iload 6, 2) := by decide +kernel
theorem dX9_agreed_116 : decode cX9_agreed 116 = .ok (.imul, 1) := by decide +kernel
theorem dX9_agreed_117 : decode cX9_agreed 117 = .ok (.idiv, 1) := by decide +kernel
theorem dX9_agreed_118 : decode cX9_agreed 118 = .ok (.ireturn, 1) := by decide +kernel
theorem dX9_isSector_0 : decode cX9_isSector 0 = .ok (.iload_n 0, 1) := by decide +kernel
theorem dX9_isSector_1 : decode cX9_isSector 1 = .ok (.i2l, 1) := by decide +kernel
theorem dX9_isSector_2 : decode cX9_isSector 2 = .ok (.lconst 0, 1) := by decide +kernel
theorem dX9_isSector_3 : decode cX9_isSector 3 = .ok (.ldc2_w 112, 3) := by decide +kernel
theorem dX9_isSector_6 : decode cX9_isSector 6 = .ok (.invokestatic 106, 3) := by decide +kernel
theorem dX9_isSector_9 : decode cX9_isSector 9 = .ok (.ireturn, 1) := by decide +kernel
theorem dX9_isQuarter_0 : decode cX9_isQuarter 0 = .ok (.iload_n 0, 1) := by decide +kernel
theorem dX9_isQuarter_1 : decode cX9_isQuarter 1 = .ok (.i2l, 1) := by decide +kernel
theorem dX9_isQuarter_2 : decode cX9_isQuarter 2 = .ok (.lconst 0, 1) := by decide +kernel
theorem dX9_isQuarter_3 : decode cX9_isQuarter 3 = .ok (.ldc2_w 122, 3) := by decide +kernel
theorem dX9_isQuarter_6 : decode cX9_isQuarter 6 = .ok (.invokestatic 106, 3) := by decide +kernel
theorem dX9_isQuarter_9 : decode cX9_isQuarter 9 = .ok (.ireturn, 1) := by decide +kernel
theorem dX9_flow_0 : decode cX9_flow 0 = .ok (.iload_n 1, 1) := by decide +kernel
theorem dX9_flow_1 : decode cX9_flow 1 = .ok (.invokestatic 278, 3) := by decide +kernel
theorem dX9_flow_4 : decode cX9_flow 4 = .ok (.ifCond .eq 37, 3) := by decide +kernel
theorem dX9_flow_7 : decode cX9_flow 7 = .ok (.iload_n 2, 1) := by decide +kernel
theorem dX9_flow_8 : decode cX9_flow 8 = .ok (.invokestatic 278, 3) := by decide +kernel
theorem dX9_flow_11 : decode cX9_flow 11 = .ok (.ifCond .eq 30, 3) := by decide +kernel
theorem dX9_flow_14 : decode cX9_flow 14 = .ok (.iload_n 1, 1) := by decide +kernel
theorem dX9_flow_15 : decode cX9_flow 15 = .ok (.iload_n 2, 1) := by decide +kernel
theorem dX9_flow_16 : decode cX9_flow 16 = .ok (.if_icmp .eq 25, 3) := by decide +kernel
theorem dX9_flow_19 : decode cX9_flow 19 = .ok (.iload_n 3, 1) := by decide +kernel
theorem dX9_flow_20 : decode cX9_flow 20 = .ok (.invokestatic 281, 3) := by decide +kernel
theorem dX9_flow_23 : decode cX9_flow 23 = .ok (.ifCond .eq 18, 3) := by decide +kernel
theorem dX9_flow_26 : decode cX9_flow 26 = .ok (.iload 4, 2) := by decide +kernel
theorem dX9_flow_28 : decode cX9_flow 28 = .ok (.i2l, 1) := by decide +kernel
theorem dX9_flow_29 : decode cX9_flow 29 = .ok (.ldc2_w 284, 3) := by decide +kernel
theorem dX9_flow_32 : decode cX9_flow 32 = .ok (.ldc2_w 159, 3) := by decide +kernel
theorem dX9_flow_35 : decode cX9_flow 35 = .ok (.invokestatic 106, 3) := by decide +kernel
theorem dX9_flow_38 : decode cX9_flow 38 = .ok (.ifCond .ne 7, 3) := by decide +kernel
theorem dX9_flow_41 : decode cX9_flow 41 = .ok (.ldc2_w 189, 3) := by decide +kernel
theorem dX9_flow_44 : decode cX9_flow 44 = .ok (.lreturn, 1) := by decide +kernel
theorem dX9_flow_45 : decode cX9_flow 45 = .ok (.bipush 72, 2) := by decide +kernel
theorem dX9_flow_47 : decode cX9_flow 47 = .ok (.iload_n 1, 1) := by decide +kernel
theorem dX9_flow_48 : decode cX9_flow 48 = .ok (.imul, 1) := by decide +kernel
theorem dX9_flow_49 : decode cX9_flow 49 = .ok (.bipush 12, 2) := by decide +kernel
theorem dX9_flow_51 : decode cX9_flow 51 = .ok (.iload_n 2, 1) := by decide +kernel
theorem dX9_flow_52 : decode cX9_flow 52 = .ok (.imul, 1) := by decide +kernel
theorem dX9_flow_53 : decode cX9_flow 53 = .ok (.iadd, 1) := by decide +kernel
theorem dX9_flow_54 : decode cX9_flow 54 = .ok (.iload_n 3, 1) := by decide +kernel
theorem dX9_flow_55 : decode cX9_flow 55 = .ok (.iadd, 1) := by decide +kernel
theorem dX9_flow_56 : decode cX9_flow 56 = .ok (.istore 5, 2) := by decide +kernel
theorem dX9_flow_58 : decode cX9_flow 58 = .ok (.aload_n 0, 1) := by decide +kernel
theorem dX9_flow_59 : decode cX9_flow 59 = .ok (.getfield 76, 3) := by decide +kernel
theorem dX9_flow_62 : decode cX9_flow 62 = .ok (.iload 5, 2) := by decide +kernel
theorem dX9_flow_64 : decode cX9_flow 64 = .ok (.dup2, 1) := by decide +kernel
theorem dX9_flow_65 : decode cX9_flow 65 = .ok (.laload, 1) := by decide +kernel
theorem dX9_flow_66 : decode cX9_flow 66 = .ok (.iload 4, 2) := by decide +kernel
theorem dX9_flow_68 : decode cX9_flow 68 = .ok (.i2l, 1) := by decide +kernel
theorem dX9_flow_69 : decode cX9_flow 69 = .ok (.ladd, 1) := by decide +kernel
