theorem dX6_settle_18 : decode cX6_settle 18 = .ok (.return_, 1) := by decide +kernel
theorem dX6_settle_19 : decode cX6_settle 19 = .ok (.aload_n 0, 1) := by decide +kernel
theorem dX6_settle_20 : decode cX6_settle 20 = .ok (.getfield 25, 3) := by decide +kernel
theorem dX6_settle_23 : decode cX6_settle 23 = .ok (.iload 4, 2) := by decide +kernel
theorem dX6_settle_25 : decode cX6_settle 25 = .ok (.iconst 1, 1) := by decide +kernel
theorem dX6_settle_26 : decode cX6_settle 26 = .ok (.bastore, 1) := by decide +kernel
theorem dX6_settle_27 : decode cX6_settle 27 = .ok (.iload_n 3, 1) := by decide +kernel
theorem dX6_settle_28 : decode cX6_settle 28 = .ok (.iconst 4, 1) := by decide +kernel
theorem dX6_settle_29 : decode cX6_settle 29 = .ok (.imul, 1) := by decide +kernel
theorem dX6_settle_30 : decode cX6_settle 30 = .ok (.istore 5, 2) := by decide +kernel
theorem dX6_settle_32 : decode cX6_settle 32 = .ok (.iconst 0, 1) := by decide +kernel
theorem dX6_settle_33 : decode cX6_settle 33 = .ok (.istore 6, 2) := by decide +kernel
theorem dX6_settle_35 : decode cX6_settle 35 = .ok (.iload 6, 2) := by decide +kernel
theorem dX6_settle_37 : decode cX6_settle 37 = .ok (.bipush 6, 2) := by decide +kernel
theorem dX6_settle_39 : decode cX6_settle 39 = .ok (.if_icmp .ge 68, 3) := by decide +kernel
theorem dX6_settle_42 : decode cX6_settle 42 = .ok (.iload_n 1, 1) := by decide +kernel
theorem dX6_settle_43 : decode cX6_settle 43 = .ok (.iload_n 2, 1) := by decide +kernel
theorem dX6_settle_44 : decode cX6_settle 44 = .ok (.iload 6, 2) := by decide +kernel
theorem dX6_settle_46 : decode cX6_settle 46 = .ok (.iload_n 3, 1) := by decide +kernel
theorem dX6_settle_47 : decode cX6_settle 47 = .ok (.invokestatic 61, 3) := by decide +kernel
theorem dX6_settle_50 : decode cX6_settle 50 = .ok (.istore 7, 2) := by decide +kernel
theorem dX6_settle_52 : decode cX6_settle 52 = .ok (.iload_n 1, 1) := by decide +kernel
theorem dX6_settle_53 : decode cX6_settle 53 = .ok (.iload_n 2, 1) := by decide +kernel
theorem dX6_settle_54 : decode cX6_settle 54 = .ok (.iload 6, 2) := by decide +kernel
theorem dX6_settle_56 : decode cX6_settle 56 = .ok (.iload 5, 2) := by decide +kernel
theorem dX6_settle_58 : decode cX6_settle 58 = .ok (.invokestatic 65, 3) := by decide +kernel
theorem dX6_settle_61 : decode cX6_settle 61 = .ok (.istore 8, 2) := by decide +kernel
theorem dX6_settle_63 : decode cX6_settle 63 = .ok (.aload_n 0, 1) := by decide +kernel
theorem dX6_settle_64 : decode cX6_settle 64 = .ok (.iload 7, 2) := by decide +kernel
theorem dX6_settle_66 : decode cX6_settle 66 = .ok (.invokevirtual 68, 3) := by decide +kernel
theorem dX6_settle_69 : decode cX6_settle 69 = .ok (.iconst 0, 1) := by decide +kernel
theorem dX6_settle_70 : decode cX6_settle 70 = .ok (.istore 9, 2) := by decide +kernel
theorem dX6_settle_72 : decode cX6_settle 72 = .ok (.iload 9, 2) := by decide +kernel
theorem dX6_settle_74 : decode cX6_settle 74 = .ok (.iconst 4, 1) := by decide +kernel
theorem dX6_settle_75 : decode cX6_settle 75 = .ok (.if_icmp .ge 18, 3) := by decide +kernel
theorem dX6_settle_78 : decode cX6_settle 78 = .ok (.aload_n 0, 1) := by decide +kernel
theorem dX6_settle_79 : decode cX6_settle 79 = .ok (.iload 8, 2) := by decide +kernel
theorem dX6_settle_81 : decode cX6_settle 81 = .ok (.iload 9, 2) := by decide +kernel
theorem dX6_settle_83 : decode cX6_settle 83 = .ok (.iadd, 1) := by decide +kernel
theorem dX6_settle_84 : decode cX6_settle 84 = .ok (.invokevirtual 68, 3) := by decide +kernel
theorem dX6_settle_87 : decode cX6_settle 87 = .ok (.iinc 9 1, 3) := by decide +kernel
theorem dX6_settle_90 : decode cX6_settle 90 = .ok (.goto (-18), 3) := by decide +kernel
theorem dX6_settle_93 : decode cX6_settle 93 = .ok (.aload_n 0, 1) := by decide +kernel
theorem dX6_settle_94 : decode cX6_settle 94 = .ok (.iload 8, 2) := by decide +kernel
theorem dX6_settle_96 : decode cX6_settle 96 = .ok (.iload 7, 2) := by decide +kernel
theorem dX6_settle_98 : decode cX6_settle 98 = .ok (.invokevirtual 72, 3) := by decide +kernel
theorem dX6_settle_101 : decode cX6_settle 101 = .ok (.iinc 6 1, 3) := by decide +kernel
theorem dX6_settle_104 : decode cX6_settle 104 = .ok (.goto (-69), 3) := by decide +kernel
theorem dX6_settle_107 : decode cX6_settle 107 = .ok (.iconst 0, 1) := by decide +kernel
theorem dX6_settle_108 : decode cX6_settle 108 = .ok (.istore 6, 2) := by decide +kernel
theorem dX6_settle_110 : decode cX6_settle 110 = .ok (.iload 6, 2) := by decide +kernel
theorem dX6_settle_112 : decode cX6_settle 112 = .ok (.iconst 4, 1) := by decide +kernel
theorem dX6_settle_113 : decode cX6_settle 113 = .ok (.if_icmp .ge 20, 3) := by decide +kernel
theorem dX6_settle_116 : decode cX6_settle 116 = .ok (.aload_n 0, 1) := by decide +kernel
theorem dX6_settle_117 : decode cX6_settle 117 = .ok (.iload_n 1, 1) := by decide +kernel
theorem dX6_settle_118 : decode cX6_settle 118 = .ok (.iload_n 2, 1) := by decide +kernel
theorem dX6_settle_119 : decode cX6_settle 119 = .ok (.iload 5, 2) := by decide +kernel
theorem dX6_settle_121 : decode cX6_settle 121 = .ok (.iload 6, 2) := by decide +kernel
theorem dX6_settle_123 : decode cX6_settle 123 = .ok (.iadd, 1) := by decide +kernel
theorem dX6_settle_124 : decode cX6_settle 124 = .ok (.invokevirtual 76, 3) := by decide +kernel
theorem dX6_settle_127 : decode cX6_settle 127 = .ok (.iinc 6 1, 3) := by decide +kernel
theorem dX6_settle_130 : decode cX6_settle 130 = .ok (.goto (-20), 3) := by decide +kernel
theorem dX6_settle_133 : decode cX6_settle 133 = .ok (.return_, 1) := by decide +kernel
theorem dX6_hear_0 : decode cX6_hear 0 = .ok (.aload_n 0, 1) := by decide +kernel
theorem dX6_hear_1 : decode cX6_hear 1 = .ok (.getfield 49, 3) := by decide +kernel
theorem dX6_hear_4 : decode cX6_hear 4 = .ok (.iload_n 1, 1) := by decide +kernel
theorem dX6_hear_5 : decode cX6_hear 5 = .ok (.aload_n 0, 1) := by decide +kernel
theorem dX6_hear_6 : decode cX6_hear 6 = .ok (.getfield 49, 3) := by decide +kernel
theorem dX6_hear_9 : decode cX6_hear 9 = .ok (.getfield 79, 3) := by decide +kernel
theorem dX6_hear_12 : decode cX6_hear 12 = .ok (.bipush 9, 2) := by decide +kernel
theorem dX6_hear_14 : decode cX6_hear 14 = .ok (.invokevirtual 84, 3) := by decide +kernel
theorem dX6_hear_17 : decode cX6_hear 17 = .ok (.aload_n 0, 1) := by decide +kernel
theorem dX6_hear_18 : decode cX6_hear 18 = .ok (.getfield 28, 3) := by decide +kernel
theorem dX6_hear_21 : decode cX6_hear 21 = .ok (.iload_n 1, 1) := by decide +kernel
theorem dX6_hear_22 : decode cX6_hear 22 = .ok (.aload_n 0, 1) := by decide +kernel
theorem dX6_hear_23 : decode cX6_hear 23 = .ok (.getfield 49, 3) := by decide +kernel
theorem dX6_hear_26 : decode cX6_hear 26 = .ok (.getfield 87, 3) := by decide +kernel
theorem dX6_hear_29 : decode cX6_hear 29 = .ok (.iastore, 1) := by decide +kernel
theorem dX6_hear_30 : decode cX6_hear 30 = .ok (.aload_n 0, 1) := by decide +kernel
theorem dX6_hear_31 : decode cX6_hear 31 = .ok (.getfield 32, 3) := by decide +kernel
theorem dX6_hear_34 : decode cX6_hear 34 = .ok (.iload_n 1, 1) := by decide +kernel
theorem dX6_hear_35 : decode cX6_hear 35 = .ok (.aload_n 0, 1) := by decide +kernel
theorem dX6_hear_36 : decode cX6_hear 36 = .ok (.getfield 49, 3) := by decide +kernel
theorem dX6_hear_39 : decode cX6_hear 39 = .ok (.getfield 90, 3) := by decide +kernel
theorem dX6_hear_42 : decode cX6_hear 42 = .ok (.iastore, 1) := by decide +kernel
theorem dX6_hear_43 : decode cX6_hear 43 = .ok (.return_, 1) := by decide +kernel
theorem dX6_bend_0 : decode cX6_bend 0 = .ok (.lconst 0, 1) := by decide +kernel
theorem dX6_bend_1 : decode cX6_bend 1 = .ok (.lstore_n 3, 1) := by decide +kernel
theorem dX6_bend_2 : decode cX6_bend 2 = .ok (.iconst 0, 1) := by decide +kernel
theorem dX6_bend_3 : decode cX6_bend 3 = .ok (.istore 5, 2) := by decide +kernel
theorem dX6_bend_5 : decode cX6_bend 5 = .ok (.iconst 0, 1) := by decide +kernel
theorem dX6_bend_6 : decode cX6_bend 6 = .ok (.istore 6, 2) := by decide +kernel
theorem dX6_bend_8 : decode cX6_bend 8 = .ok (.iload 6, 2) := by decide +kernel
theorem dX6_bend_10 : decode cX6_bend 10 = .ok (.iconst 4, 1) := by decide +kernel
theorem dX6_bend_11 : decode cX6_bend 11 = .ok (.if_icmp .ge 63, 3) := by decide +kernel
theorem dX6_bend_14 : decode cX6_bend 14 = .ok (.aload_n 0, 1) := by decide +kernel
theorem dX6_bend_15 : decode cX6_bend 15 = .ok (.getfield 38, 3) := by decide +kernel
theorem dX6_bend_18 : decode cX6_bend 18 = .ok (.iload_n 1, 1) := by decide +kernel
theorem dX6_bend_19 : decode cX6_bend 19 = .ok (.iload 6, 2) := by decide +kernel
theorem dX6_bend_21 : decode cX6_bend 21 = .ok (.iadd, 1) := by decide +kernel
theorem dX6_bend_22 : decode cX6_bend 22 = .ok (.aload_n 0, 1) := by decide +kernel
theorem dX6_bend_23 : decode cX6_bend 23 = .ok (.getfield 28, 3) := by decide +kernel
theorem dX6_bend_26 : decode cX6_bend 26 = .ok (.iload_n 1, 1) := by decide +kernel
theorem dX6_bend_27 : decode cX6_bend 27 = .ok (.iload 6, 2) := by decide +kernel
theorem dX6_bend_29 : decode cX6_bend 29 = .ok (.iadd, 1) := by decide +kernel
theorem dX6_bend_30 : decode cX6_bend 30 = .ok (.iaload, 1) := by decide +kernel
theorem dX6_bend_31 : decode cX6_bend 31 = .ok (.i2l, 1) := by decide +kernel
theorem dX6_bend_32 : decode cX6_bend 32 = .ok (.lastore, 1) := by decide +kernel
theorem dX6_bend_33 : decode cX6_bend 33 = .ok (.lload_n 3, 1) := by decide +kernel
theorem dX6_bend_34 : decode cX6_bend 34 = .ok (.aload_n 0, 1) := by decide +kernel
theorem dX6_bend_35 : decode cX6_bend 35 = .ok (.getfield 28, 3) := by decide +kernel
theorem dX6_bend_38 : decode cX6_bend 38 = .ok (.iload_n 1, 1) := by decide +kernel
theorem dX6_bend_39 : decode cX6_bend 39 = .ok (.iload 6, 2) := by decide +kernel
theorem dX6_bend_41 : decode cX6_bend 41 = .ok (.iadd, 1) := by decide +kernel
theorem dX6_bend_42 : decode cX6_bend 42 = .ok (.iaload, 1) := by decide +kernel
theorem dX6_bend_43 : decode cX6_bend 43 = .ok (.i2l, 1) := by decide +kernel
theorem dX6_bend_44 : decode cX6_bend 44 = .ok (.ladd, 1) := by decide +kernel
theorem dX6_bend_45 : decode cX6_bend 45 = .ok (.lstore_n 3, 1) := by decide +kernel
theorem dX6_bend_46 : decode cX6_bend 46 = .ok (.iload 5, 2) := by decide +kernel
theorem dX6_bend_48 : decode cX6_bend 48 = .ok (.aload_n 0, 1) := by decide +kernel
theorem dX6_bend_49 : decode cX6_bend 49 = .ok (.getfield 32, 3) := by decide +kernel
theorem dX6_bend_52 : decode cX6_bend 52 = .ok (.iload_n 1, 1) := by decide +kernel
theorem dX6_bend_53 : decode cX6_bend 53 = .ok (.iload 6, 2) := by decide +kernel
theorem dX6_bend_55 : decode cX6_bend 55 = .ok (.iadd, 1) := by decide +kernel
theorem dX6_bend_56 : decode cX6_bend 56 = .ok (.iaload, 1) := by decide +kernel
theorem dX6_bend_57 : decode cX6_bend 57 = .ok (.ifCond .ne 7, 3) := by decide +kernel
theorem dX6_bend_60 : decode cX6_bend 60 = .ok (.iconst 1, 1) := by decide +kernel
theorem dX6_bend_61 : decode cX6_bend 61 = .ok (.goto 4, 3) := by decide +kernel
theorem dX6_bend_64 : decode cX6_bend 64 = .ok (.iconst 0, 1) := by decide +kernel
theorem dX6_bend_65 : decode cX6_bend 65 = .ok (.iadd, 1) := by decide +kernel
theorem dX6_bend_66 : decode cX6_bend 66 = .ok (.istore 5, 2) := by decide +kernel
theorem dX6_bend_68 : decode cX6_bend 68 = .ok (.iinc 6 1, 3) := by decide +kernel
theorem dX6_bend_71 : decode cX6_bend 71 = .ok (.goto (-63), 3) := by decide +kernel
theorem dX6_bend_74 : decode cX6_bend 74 = .ok (.aload_n 0, 1) := by decide +kernel
theorem dX6_bend_75 : decode cX6_bend 75 = .ok (.getfield 32, 3) := by decide +kernel
theorem dX6_bend_78 : decode cX6_bend 78 = .ok (.iload_n 2, 1) := by decide +kernel
theorem dX6_bend_79 : decode cX6_bend 79 = .ok (.iaload, 1) := by decide +kernel
theorem dX6_bend_80 : decode cX6_bend 80 = .ok (.ifCond .ne 4, 3) := by decide +kernel
theorem dX6_bend_83 : decode cX6_bend 83 = .ok (.return_, 1) := by decide +kernel
theorem dX6_bend_84 : decode cX6_bend 84 = .ok (.iload 5, 2) := by decide +kernel
theorem dX6_bend_86 : decode cX6_bend 86 = .ok (.ifCond .le 7, 3) := by decide +kernel
theorem dX6_bend_89 : decode cX6_bend 89 = .ok (.iconst 1, 1) := by decide +kernel
theorem dX6_bend_90 : decode cX6_bend 90 = .ok (.goto 4, 3) := by decide +kernel
theorem dX6_bend_93 : decode cX6_bend 93 = .ok (.iconst 0, 1) := by decide +kernel
theorem dX6_bend_94 : decode cX6_bend 94 = .ok (.istore 6, 2) := by decide +kernel
theorem dX6_bend_96 : decode cX6_bend 96 = .ok (.iconst 0, 1) := by decide +kernel
theorem dX6_bend_97 : decode cX6_bend 97 = .ok (.istore 7, 2) := by decide +kernel
theorem dX6_bend_99 : decode cX6_bend 99 = .ok (.iload 7, 2) := by decide +kernel
theorem dX6_bend_101 : decode cX6_bend 101 = .ok (.iconst 4, 1) := by decide +kernel
theorem dX6_bend_102 : decode cX6_bend 102 = .ok (.if_icmp .ge 74, 3) := by decide +kernel
theorem dX6_bend_105 : decode cX6_bend 105 = .ok (.iload 6, 2) := by decide +kernel
theorem dX6_bend_107 : decode cX6_bend 107 = .ok (.ifCond .eq 33, 3) := by decide +kernel
theorem dX6_bend_110 : decode cX6_bend 110 = .ok (.aload_n 0, 1) := by decide +kernel
theorem dX6_bend_111 : decode cX6_bend 111 = .ok (.getfield 12, 3) := by decide +kernel
theorem dX6_bend_114 : decode cX6_bend 114 = .ok (.getfield 92, 3) := by decide +kernel
theorem dX6_bend_117 : decode cX6_bend 117 = .ok (.iload 7, 2) := by decide +kernel
theorem dX6_bend_119 : decode cX6_bend 119 = .ok (.aload_n 0, 1) := by decide +kernel
theorem dX6_bend_120 : decode cX6_bend 120 = .ok (.getfield 32, 3) := by decide +kernel
theorem dX6_bend_123 : decode cX6_bend 123 = .ok (.iload_n 1, 1) := by decide +kernel
theorem dX6_bend_124 : decode cX6_bend 124 = .ok (.iload 7, 2) := by decide +kernel
theorem dX6_bend_126 : decode cX6_bend 126 = .ok (.iadd, 1) := by decide +kernel
theorem dX6_bend_127 : decode cX6_bend 127 = .ok (.iaload, 1) := by decide +kernel
theorem dX6_bend_128 : decode cX6_bend 128 = .ok (.ifCond .ne 7, 3) := by decide +kernel
theorem dX6_bend_131 : decode cX6_bend 131 = .ok (.lconst 1, 1) := by decide +kernel
theorem dX6_bend_132 : decode cX6_bend 132 = .ok (.goto 4, 3) := by decide +kernel
theorem dX6_bend_135 : decode cX6_bend 135 = .ok (.lconst 0, 1) := by decide +kernel
theorem dX6_bend_136 : decode cX6_bend 136 = .ok (.lastore, 1) := by decide +kernel
theorem dX6_bend_137 : decode cX6_bend 137 = .ok (.goto 33, 3) := by decide +kernel
theorem dX6_bend_140 : decode cX6_bend 140 = .ok (.aload_n 0, 1) := by decide +kernel
theorem dX6_bend_141 : decode cX6_bend 141 = .ok (.getfield 12, 3) := by decide +kernel
theorem dX6_bend_144 : decode cX6_bend 144 = .ok (.getfield 92, 3) := by decide +kernel
theorem dX6_bend_147 : decode cX6_bend 147 = .ok (.iload 7, 2) := by decide +kernel
theorem dX6_bend_149 : decode cX6_bend 149 = .ok (.lload_n 3, 1) := by decide +kernel
theorem dX6_bend_150 : decode cX6_bend 150 = .ok (.lconst 0, 1) := by decide +kernel
theorem dX6_bend_151 : decode cX6_bend 151 = .ok (.lcmp, 1) := by decide +kernel
theorem dX6_bend_152 : decode cX6_bend 152 = .ok (.ifCond .ne 7, 3) := by decide +kernel
theorem dX6_bend_155 : decode cX6_bend 155 = .ok (.lconst 1, 1) := by decide +kernel
theorem dX6_bend_156 : decode cX6_bend 156 = .ok (.goto 13, 3) := by decide +kernel
theorem dX6_bend_159 : decode cX6_bend 159 = .ok (.aload_n 0, 1) := by decide +kernel
theorem dX6_bend_160 : decode cX6_bend 160 = .ok (.getfield 28, 3) := by decide +kernel
theorem dX6_bend_163 : decode cX6_bend 163 = .ok (.iload_n 1, 1) := by decide +kernel
theorem dX6_bend_164 : decode cX6_bend 164 = .ok (.iload 7, 2) := by decide +kernel
theorem dX6_bend_166 : decode cX6_bend 166 = .ok (.iadd, 1) := by decide +kernel
theorem dX6_bend_167 : decode cX6_bend 167 = .ok (.iaload, 1) := by decide +kernel
theorem dX6_bend_168 : decode cX6_bend 168 = .ok (.i2l, 1) := by decide +kernel
theorem dX6_bend_169 : decode cX6_bend 169 = .ok (.lastore, 1) := by decide +kernel
theorem dX6_bend_170 : decode cX6_bend 170 = .ok (.iinc 7 1, 3) := by decide +kernel
theorem dX6_bend_173 : decode cX6_bend 173 = .ok (.goto (-74), 3) := by decide +kernel
theorem dX6_bend_176 : decode cX6_bend 176 = .ok (.aload_n 0, 1) := by decide +kernel
theorem dX6_bend_177 : decode cX6_bend 177 = .ok (.getfield 12, 3) := by decide +kernel
theorem dX6_bend_180 : decode cX6_bend 180 = .ok (.iload 6, 2) := by decide +kernel
theorem dX6_bend_182 : decode cX6_bend 182 = .ok (.ifCond .eq 15, 3) := by decide +kernel
theorem dX6_bend_185 : decode cX6_bend 185 = .ok (.aload_n 0, 1) := by decide +kernel
theorem dX6_bend_186 : decode cX6_bend 186 = .ok (.getfield 28, 3) := by decide +kernel
theorem dX6_bend_189 : decode cX6_bend 189 = .ok (.iload_n 2, 1) := by decide +kernel
theorem dX6_bend_190 : decode cX6_bend 190 = .ok (.iaload, 1) := by decide +kernel
theorem dX6_bend_191 : decode cX6_bend 191 = .ok (.i2l, 1) := by decide +kernel
theorem dX6_bend_192 : decode cX6_bend 192 = .ok (.lload_n 3, 1) := by decide +kernel
theorem dX6_bend_193 : decode cX6_bend 193 = .ok (.lsub, 1) := by decide +kernel
theorem dX6_bend_194 : decode cX6_bend 194 = .ok (.goto 10, 3) := by decide +kernel
theorem dX6_bend_197 : decode cX6_bend 197 = .ok (.aload_n 0, 1) := by decide +kernel
theorem dX6_bend_198 : decode cX6_bend 198 = .ok (.getfield 28, 3) := by decide +kernel
theorem dX6_bend_201 : decode cX6_bend 201 = .ok (.iload_n 2, 1) := by decide +kernel
theorem dX6_bend_202 : decode cX6_bend 202 = .ok (.iaload, 1) := by decide +kernel
theorem dX6_bend_203 : decode cX6_bend 203 = .ok (.i2l, 1) := by decide +kernel
theorem dX6_bend_204 : decode cX6_bend 204 = .ok (.iconst 4, 1) := by decide +kernel
theorem dX6_bend_205 : decode cX6_bend 205 = .ok (.invokevirtual 95, 3) := by decide +kernel
theorem dX6_bend_208 : decode cX6_bend 208 = .ok (.iconst 0, 1) := by decide +kernel
theorem dX6_bend_209 : decode cX6_bend 209 = .ok (.istore 7, 2) := by decide +kernel
theorem dX6_bend_211 : decode cX6_bend 211 = .ok (.iload 7, 2) := by decide +kernel
theorem dX6_bend_213 : decode cX6_bend 213 = .ok (.iconst 4, 1) := by decide +kernel
theorem dX6_bend_214 : decode cX6_bend 214 = .ok (.if_icmp .ge 45, 3) := by decide +kernel
theorem dX6_bend_217 : decode cX6_bend 217 = .ok (.iload 6, 2) := by decide +kernel
theorem dX6_bend_219 : decode cX6_bend 219 = .ok (.ifCond .eq 15, 3) := by decide +kernel
theorem dX6_bend_222 : decode cX6_bend 222 = .ok (.aload_n 0, 1) := by decide +kernel
theorem dX6_bend_223 : decode cX6_bend 223 = .ok (.getfield 32, 3) := by decide +kernel
theorem dX6_bend_226 : decode cX6_bend 226 = .ok (.iload_n 1, 1) := by decide +kernel
theorem dX6_bend_227 : decode cX6_bend 227 = .ok (.iload 7, 2) := by decide +kernel
theorem dX6_bend_229 : decode cX6_bend 229 = .ok (.iadd, 1) := by decide +kernel
theorem dX6_bend_230 : decode cX6_bend 230 = .ok (.iaload, 1) := by decide +kernel
theorem dX6_bend_231 : decode cX6_bend 231 = .ok (.ifCond .ne 22, 3) := by decide +kernel
theorem dX6_bend_234 : decode cX6_bend 234 = .ok (.aload_n 0, 1) := by decide +kernel
theorem dX6_bend_235 : decode cX6_bend 235 = .ok (.getfield 38, 3) := by decide +kernel
theorem dX6_bend_238 : decode cX6_bend 238 = .ok (.iload_n 1, 1) := by decide +kernel
theorem dX6_bend_239 : decode cX6_bend 239 = .ok (.iload 7, 2) := by decide +kernel
theorem dX6_bend_241 : decode cX6_bend 241 = .ok (.iadd, 1) := by decide +kernel
theorem dX6_bend_242 : decode cX6_bend 242 = .ok (.aload_n 0, 1) := by decide +kernel
theorem dX6_bend_243 : decode cX6_bend 243 = .ok (.getfield 12, 3) := by decide +kernel
theorem dX6_bend_246 : decode cX6_bend 246 = .ok (.getfield 99, 3) := by decide +kernel
theorem dX6_bend_249 : decode cX6_bend 249 = .ok (.iload 7, 2) := by decide +kernel
theorem dX6_bend_251 : decode cX6_bend 251 = .ok (.laload, 1) := by decide +kernel
theorem dX6_bend_252 : decode cX6_bend 252 = .ok (.lastore, 1) := by decide +kernel
theorem dX6_bend_253 : decode cX6_bend 253 = .ok (.iinc 7 1, 3) := by decide +kernel
theorem dX6_bend_256 : decode cX6_bend 256 = .ok (.goto (-45), 3) := by decide +kernel
theorem dX6_bend_259 : decode cX6_bend 259 = .ok (.return_, 1) := by decide +kernel
theorem dX6_close_0 : decode cX6_close 0 = .ok (.aload_n 0, 1) := by decide +kernel
theorem dX6_close_1 : decode cX6_close 1 = .ok (.iload_n 1, 1) := by decide +kernel
theorem dX6_close_2 : decode cX6_close 2 = .ok (.iload_n 2, 1) := by decide +kernel
theorem dX6_close_3 : decode cX6_close 3 = .ok (.iload_n 3, 1) := by decide +kernel
theorem dX6_close_4 : decode cX6_close 4 = .ok (.invokevirtual 102, 3) := by decide +kernel
theorem dX6_close_7 : decode cX6_close 7 = .ok (.aload_n 0, 1) := by decide +kernel
theorem dX6_close_8 : decode cX6_close 8 = .ok (.getfield 45, 3) := by decide +kernel
theorem dX6_close_11 : decode cX6_close 11 = .ok (.ifCond .ne 10, 3) := by decide +kernel
theorem dX6_close_14 : decode cX6_close 14 = .ok (.aload_n 0, 1) := by decide +kernel
theorem dX6_close_15 : decode cX6_close 15 = .ok (.invokevirtual 105, 3) := by decide +kernel
theorem dX6_close_18 : decode cX6_close 18 = .ok (.goto 7, 3) := by decide +kernel
theorem dX6_close_21 : decode cX6_close 21 = .ok (.aload_n 0, 1) := by decide +kernel
theorem dX6_close_22 : decode cX6_close 22 = .ok (.invokevirtual 108, 3) := by decide +kernel
theorem dX6_close_25 : decode cX6_close 25 = .ok (.aload_n 0, 1) := by decide +kernel
theorem dX6_close_26 : decode cX6_close 26 = .ok (.getfield 12, 3) := by decide +kernel
theorem dX6_close_29 : decode cX6_close 29 = .ok (.aload_n 0, 1) := by decide +kernel
theorem dX6_close_30 : decode cX6_close 30 = .ok (.iload_n 1, 1) := by decide +kernel
theorem dX6_close_31 : decode cX6_close 31 = .ok (.iload_n 2, 1) := by decide +kernel
theorem dX6_close_32 : decode cX6_close 32 = .ok (.iload_n 3, 1) := by decide +kernel
theorem dX6_close_33 : decode cX6_close 33 = .ok (.invokevirtual 111, 3) := by decide +kernel
theorem dX6_close_36 : decode cX6_close 36 = .ok (.bipush 6, 2) := by decide +kernel
theorem dX6_close_38 : decode cX6_close 38 = .ok (.invokevirtual 95, 3) := by decide +kernel
theorem dX6_close_41 : decode cX6_close 41 = .ok (.iconst 0, 1) := by decide +kernel
theorem dX6_close_42 : decode cX6_close 42 = .ok (.istore 4, 2) := by decide +kernel
theorem dX6_close_44 : decode cX6_close 44 = .ok (.iload 4, 2) := by decide +kernel
theorem dX6_close_46 : decode cX6_close 46 = .ok (.bipush 6, 2) := by decide +kernel
theorem dX6_close_48 : decode cX6_close 48 = .ok (.if_icmp .ge 72, 3) := by decide +kernel
theorem dX6_close_51 : decode cX6_close 51 = .ok (.iload_n 1, 1) := by decide +kernel
theorem dX6_close_52 : decode cX6_close 52 = .ok (.iload_n 2, 1) := by decide +kernel
theorem dX6_close_53 : decode cX6_close 53 = .ok (.iload 4, 2) := by decide +kernel
theorem dX6_close_55 : decode cX6_close 55 = .ok (.iload_n 3, 1) := by decide +kernel
theorem dX6_close_56 : decode cX6_close 56 = .ok (.invokestatic 65, 3) := by decide +kernel
theorem dX6_close_59 : decode cX6_close 59 = .ok (.istore 5, 2) := by decide +kernel
theorem dX6_close_61 : decode cX6_close 61 = .ok (.aload_n 0, 1) := by decide +kernel
theorem dX6_close_62 : decode cX6_close 62 = .ok (.getfield 18, 3) := by decide +kernel
theorem dX6_close_65 : decode cX6_close 65 = .ok (.iload 4, 2) := by decide +kernel
theorem dX6_close_67 : decode cX6_close 67 = .ok (.baload, 1) := by decide +kernel
theorem dX6_close_68 : decode cX6_close 68 = .ok (.ifCond .eq 17, 3) := by decide +kernel
theorem dX6_close_71 : decode cX6_close 71 = .ok (.aload_n 0, 1) := by decide +kernel
theorem dX6_close_72 : decode cX6_close 72 = .ok (.getfield 12, 3) := by decide +kernel
theorem dX6_close_75 : decode cX6_close 75 = .ok (.getfield 99, 3) := by decide +kernel
theorem dX6_close_78 : decode cX6_close 78 = .ok (.iload 4, 2) := by decide +kernel
theorem dX6_close_80 : decode cX6_close 80 = .ok (.laload, 1) := by decide +kernel
theorem dX6_close_81 : decode cX6_close 81 = .ok (.lneg, 1) := by decide +kernel
theorem dX6_close_82 : decode cX6_close 82 = .ok (.goto 13, 3) := by decide +kernel
theorem dX6_close_85 : decode cX6_close 85 = .ok (.aload_n 0, 1) := by decide +kernel
theorem dX6_close_86 : decode cX6_close 86 = .ok (.getfield 12, 3) := by decide +kernel
theorem dX6_close_89 : decode cX6_close 89 = .ok (.getfield 99, 3) := by decide +kernel
theorem dX6_close_92 : decode cX6_close 92 = .ok (.iload 4, 2) := by decide +kernel
theorem dX6_close_94 : decode cX6_close 94 = .ok (.laload, 1) := by decide +kernel
theorem dX6_close_95 : decode cX6_close 95 = .ok (.lstore 6, 2) := by decide +kernel
theorem dX6_close_97 : decode cX6_close 97 = .ok (.aload_n 0, 1) := by decide +kernel
theorem dX6_close_98 : decode cX6_close 98 = .ok (.getfield 42, 3) := by decide +kernel
theorem dX6_close_101 : decode cX6_close 101 = .ok (.iload 5, 2) := by decide +kernel
theorem dX6_close_103 : decode cX6_close 103 = .ok (.aload_n 0, 1) := by decide +kernel
theorem dX6_close_104 : decode cX6_close 104 = .ok (.getfield 38, 3) := by decide +kernel
theorem dX6_close_107 : decode cX6_close 107 = .ok (.iload 5, 2) := by decide +kernel
theorem dX6_close_109 : decode cX6_close 109 = .ok (.laload, 1) := by decide +kernel
theorem dX6_close_110 : decode cX6_close 110 = .ok (.lload 6, 2) := by decide +kernel
theorem dX6_close_112 : decode cX6_close 112 = .ok (.ladd, 1) := by decide +kernel
theorem dX6_close_113 : decode cX6_close 113 = .ok (.lastore, 1) := by decide +kernel
theorem dX6_close_114 : decode cX6_close 114 = .ok (.iinc 4 1, 3) := by decide +kernel
theorem dX6_close_117 : decode cX6_close 117 = .ok (.goto (-73), 3) := by decide +kernel
theorem dX6_close_120 : decode cX6_close 120 = .ok (.return_, 1) := by decide +kernel
theorem dX6_reckonCosts_0 : decode cX6_reckonCosts 0 = .ok (.iload_n 3, 1) := by decide +kernel
theorem dX6_reckonCosts_1 : decode cX6_reckonCosts 1 = .ok (.iconst 4, 1) := by decide +kernel
theorem dX6_reckonCosts_2 : decode cX6_reckonCosts 2 = .ok (.idiv, 1) := by decide +kernel
theorem dX6_reckonCosts_3 : decode cX6_reckonCosts 3 = .ok (.istore 4, 2) := by decide +kernel
theorem dX6_reckonCosts_5 : decode cX6_reckonCosts 5 = .ok (.iconst 0, 1) := by decide +kernel
theorem dX6_reckonCosts_6 : decode cX6_reckonCosts 6 = .ok (.istore 5, 2) := by decide +kernel
theorem dX6_reckonCosts_8 : decode cX6_reckonCosts 8 = .ok (.iload 5, 2) := by decide +kernel
theorem dX6_reckonCosts_10 : decode cX6_reckonCosts 10 = .ok (.bipush 6, 2) := by decide +kernel
theorem dX6_reckonCosts_12 : decode cX6_reckonCosts 12 = .ok (.if_icmp .ge 77, 3) := by decide +kernel
theorem dX6_reckonCosts_15 : decode cX6_reckonCosts 15 = .ok (.iload_n 1, 1) := by decide +kernel
theorem dX6_reckonCosts_16 : decode cX6_reckonCosts 16 = .ok (.iload_n 2, 1) := by decide +kernel
theorem dX6_reckonCosts_17 : decode cX6_reckonCosts 17 = .ok (.iload 5, 2) := by decide +kernel
theorem dX6_reckonCosts_19 : decode cX6_reckonCosts 19 = .ok (.iload_n 3, 1) := by decide +kernel
theorem dX6_reckonCosts_20 : decode cX6_reckonCosts 20 = .ok (.invokestatic 65, 3) := by decide +kernel
theorem dX6_reckonCosts_23 : decode cX6_reckonCosts 23 = .ok (.istore 6, 2) := by decide +kernel
theorem dX6_reckonCosts_25 : decode cX6_reckonCosts 25 = .ok (.iload_n 1, 1) := by decide +kernel
theorem dX6_reckonCosts_26 : decode cX6_reckonCosts 26 = .ok (.iload_n 2, 1) := by decide +kernel
theorem dX6_reckonCosts_27 : decode cX6_reckonCosts 27 = .ok (.iload 5, 2) := by decide +kernel
theorem dX6_reckonCosts_29 : decode cX6_reckonCosts 29 = .ok (.iload 4, 2) := by decide +kernel
theorem dX6_reckonCosts_31 : decode cX6_reckonCosts 31 = .ok (.invokestatic 61, 3) := by decide +kernel
theorem dX6_reckonCosts_34 : decode cX6_reckonCosts 34 = .ok (.istore 7, 2) := by decide +kernel
theorem dX6_reckonCosts_36 : decode cX6_reckonCosts 36 = .ok (.aload_n 0, 1) := by decide +kernel
theorem dX6_reckonCosts_37 : decode cX6_reckonCosts 37 = .ok (.getfield 22, 3) := by decide +kernel
theorem dX6_reckonCosts_40 : decode cX6_reckonCosts 40 = .ok (.iload_n 1, 1) := by decide +kernel
theorem dX6_reckonCosts_41 : decode cX6_reckonCosts 41 = .ok (.iload_n 2, 1) := by decide +kernel
theorem dX6_reckonCosts_42 : decode cX6_reckonCosts 42 = .ok (.iload 5, 2) := by decide +kernel
theorem dX6_reckonCosts_44 : decode cX6_reckonCosts 44 = .ok (.invokestatic 115, 3) := by decide +kernel
theorem dX6_reckonCosts_47 : decode cX6_reckonCosts 47 = .ok (.baload, 1) := by decide +kernel
theorem dX6_reckonCosts_48 : decode cX6_reckonCosts 48 = .ok (.istore 8, 2) := by decide +kernel
theorem dX6_reckonCosts_50 : decode cX6_reckonCosts 50 = .ok (.aload_n 0, 1) := by decide +kernel
theorem dX6_reckonCosts_51 : decode cX6_reckonCosts 51 = .ok (.getfield 35, 3) := by decide +kernel
theorem dX6_reckonCosts_54 : decode cX6_reckonCosts 54 = .ok (.iload 5, 2) := by decide +kernel
theorem dX6_reckonCosts_56 : decode cX6_reckonCosts 56 = .ok (.iload 8, 2) := by decide +kernel
theorem dX6_reckonCosts_58 : decode cX6_reckonCosts 58 = .ok (.ifCond .eq 7, 3) := by decide +kernel
theorem dX6_reckonCosts_61 : decode cX6_reckonCosts 61 = .ok (.iconst 0, 1) := by decide +kernel
theorem dX6_reckonCosts_62 : decode cX6_reckonCosts 62 = .ok (.goto 20, 3) := by decide +kernel
theorem dX6_reckonCosts_65 : decode cX6_reckonCosts 65 = .ok (.aload_n 0, 1) := by decide +kernel
theorem dX6_reckonCosts_66 : decode cX6_reckonCosts 66 = .ok (.getfield 32, 3) := by decide +kernel
theorem dX6_reckonCosts_69 : decode cX6_reckonCosts 69 = .ok (.iload 6, 2) := by decide +kernel
theorem dX6_reckonCosts_71 : decode cX6_reckonCosts 71 = .ok (.iaload, 1) := by decide +kernel
theorem dX6_reckonCosts_72 : decode cX6_reckonCosts 72 = .ok (.aload_n 0, 1) := by decide +kernel
theorem dX6_reckonCosts_73 : decode cX6_reckonCosts 73 = .ok (.getfield 32, 3) := by decide +kernel
theorem dX6_reckonCosts_76 : decode cX6_reckonCosts 76 = .ok (.iload 7, 2) := by decide +kernel
theorem dX6_reckonCosts_78 : decode cX6_reckonCosts 78 = .ok (.iaload, 1) := by decide +kernel
theorem dX6_reckonCosts_79 : decode cX6_reckonCosts 79 = .ok (.iadd, 1) := by decide +kernel
theorem dX6_reckonCosts_80 : decode cX6_reckonCosts 80 = .ok (.iconst 1, 1) := by decide +kernel
theorem dX6_reckonCosts_81 : decode cX6_reckonCosts 81 = .ok (.iadd, 1) := by decide +kernel
theorem dX6_reckonCosts_82 : decode cX6_reckonCosts 82 = .ok (.iastore, 1) := by decide +kernel
theorem dX6_reckonCosts_83 : decode cX6_reckonCosts 83 = .ok (.iinc 5 1, 3) := by decide +kernel
theorem dX6_reckonCosts_86 : decode cX6_reckonCosts 86 = .ok (.goto (-78), 3) := by decide +kernel
theorem dX6_reckonCosts_89 : decode cX6_reckonCosts 89 = .ok (.return_, 1) := by decide +kernel
theorem dX6_shareToCheapest_0 : decode cX6_shareToCheapest 0 = .ok (.iconst (-1), 1) := by decide +kernel
theorem dX6_shareToCheapest_1 : decode cX6_shareToCheapest 1 = .ok (.istore_n 1, 1) := by decide +kernel
theorem dX6_shareToCheapest_2 : decode cX6_shareToCheapest 2 = .ok (.iconst 0, 1) := by decide +kernel
theorem dX6_shareToCheapest_3 : decode cX6_shareToCheapest 3 = .ok (.istore_n 2, 1) := by decide +kernel
theorem dX6_shareToCheapest_4 : decode cX6_shareToCheapest 4 = .ok (.iload_n 2, 1) := by decide +kernel
theorem dX6_shareToCheapest_5 : decode cX6_shareToCheapest 5 = .ok (.bipush 6, 2) := by decide +kernel
theorem dX6_shareToCheapest_7 : decode cX6_shareToCheapest 7 = .ok (.if_icmp .ge 50, 3) := by decide +kernel
theorem dX6_shareToCheapest_10 : decode cX6_shareToCheapest 10 = .ok (.aload_n 0, 1) := by decide +kernel
theorem dX6_shareToCheapest_11 : decode cX6_shareToCheapest 11 = .ok (.getfield 12, 3) := by decide +kernel
theorem dX6_shareToCheapest_14 : decode cX6_shareToCheapest 14 = .ok (.getfield 92, 3) := by decide +kernel
theorem dX6_shareToCheapest_17 : decode cX6_shareToCheapest 17 = .ok (.iload_n 2, 1) := by decide +kernel
theorem dX6_shareToCheapest_18 : decode cX6_shareToCheapest 18 = .ok (.lconst 0, 1) := by decide +kernel
theorem dX6_shareToCheapest_19 : decode cX6_shareToCheapest 19 = .ok (.lastore, 1) := by decide +kernel
theorem dX6_shareToCheapest_20 : decode cX6_shareToCheapest 20 = .ok (.aload_n 0, 1) := by decide +kernel
theorem dX6_shareToCheapest_21 : decode cX6_shareToCheapest 21 = .ok (.getfield 35, 3) := by decide +kernel
theorem dX6_shareToCheapest_24 : decode cX6_shareToCheapest 24 = .ok (.iload_n 2, 1) := by decide +kernel
theorem dX6_shareToCheapest_25 : decode cX6_shareToCheapest 25 = .ok (.iaload, 1) := by decide +kernel
theorem dX6_shareToCheapest_26 : decode cX6_shareToCheapest 26 = .ok (.ifCond .le 25, 3) := by decide +kernel
theorem dX6_shareToCheapest_29 : decode cX6_shareToCheapest 29 = .ok (.iload_n 1, 1) := by decide +kernel
theorem dX6_shareToCheapest_30 : decode cX6_shareToCheapest 30 = .ok (.iconst (-1), 1) := by decide +kernel
theorem dX6_shareToCheapest_31 : decode cX6_shareToCheapest 31 = .ok (.if_icmp .eq 18, 3) := by decide +kernel
theorem dX6_shareToCheapest_34 : decode cX6_shareToCheapest 34 = .ok (.aload_n 0, 1) := by decide +kernel
theorem dX6_shareToCheapest_35 : decode cX6_shareToCheapest 35 = .ok (.getfield 35, 3) := by decide +kernel
theorem dX6_shareToCheapest_38 : decode cX6_shareToCheapest 38 = .ok (.iload_n 2, 1) := by decide +kernel
theorem dX6_shareToCheapest_39 : decode cX6_shareToCheapest 39 = .ok (.iaload, 1) := by decide +kernel
theorem dX6_shareToCheapest_40 : decode cX6_shareToCheapest 40 = .ok (.aload_n 0, 1) := by decide +kernel
theorem dX6_shareToCheapest_41 : decode cX6_shareToCheapest 41 = .ok (.getfield 35, 3) := by decide +kernel
theorem dX6_shareToCheapest_44 : decode cX6_shareToCheapest 44 = .ok (.iload_n 1, 1) := by decide +kernel
theorem dX6_shareToCheapest_45 : decode cX6_shareToCheapest 45 = .ok (.iaload, 1) := by decide +kernel
theorem dX6_shareToCheapest_46 : decode cX6_shareToCheapest 46 = .ok (.if_icmp .ge 5, 3) := by decide +kernel
theorem dX6_shareToCheapest_49 : decode cX6_shareToCheapest 49 = .ok (.iload_n 2, 1) := by decide +kernel
theorem dX6_shareToCheapest_50 : decode cX6_shareToCheapest 50 = .ok (.istore_n 1, 1) := by decide +kernel
theorem dX6_shareToCheapest_51 : decode cX6_shareToCheapest 51 = .ok (.iinc 2 1, 3) := by decide +kernel
theorem dX6_shareToCheapest_54 : decode cX6_shareToCheapest 54 = .ok (.goto (-50), 3) := by decide +kernel
theorem dX6_shareToCheapest_57 : decode cX6_shareToCheapest 57 = .ok (.iload_n 1, 1) := by decide +kernel
theorem dX6_shareToCheapest_58 : decode cX6_shareToCheapest 58 = .ok (.iconst (-1), 1) := by decide +kernel
theorem dX6_shareToCheapest_59 : decode cX6_shareToCheapest 59 = .ok (.if_icmp .eq 13, 3) := by decide +kernel
theorem dX6_shareToCheapest_62 : decode cX6_shareToCheapest 62 = .ok (.aload_n 0, 1) := by decide +kernel
theorem dX6_shareToCheapest_63 : decode cX6_shareToCheapest 63 = .ok (.getfield 12, 3) := by decide +kernel
theorem dX6_shareToCheapest_66 : decode cX6_shareToCheapest 66 = .ok (.getfield 92, 3) := by decide +kernel
theorem dX6_shareToCheapest_69 : decode cX6_shareToCheapest 69 = .ok (.iload_n 1, 1) := by decide +kernel
theorem dX6_shareToCheapest_70 : decode cX6_shareToCheapest 70 = .ok (.lconst 1, 1) := by decide +kernel
theorem dX6_shareToCheapest_71 : decode cX6_shareToCheapest 71 = .ok (.lastore, 1) := by decide +kernel
theorem dX6_shareToCheapest_72 : decode cX6_shareToCheapest 72 = .ok (.return_, 1) := by decide +kernel
theorem dX6_shareByCost_0 : decode cX6_shareByCost 0 = .ok (.iconst 0, 1) := by decide +kernel
theorem dX6_shareByCost_1 : decode cX6_shareByCost 1 = .ok (.istore_n 1, 1) := by decide +kernel
theorem dX6_shareByCost_2 : decode cX6_shareByCost 2 = .ok (.iload_n 1, 1) := by decide +kernel
theorem dX6_shareByCost_3 : decode cX6_shareByCost 3 = .ok (.bipush 6, 2) := by decide +kernel
theorem dX6_shareByCost_5 : decode cX6_shareByCost 5 = .ok (.if_icmp .ge 42, 3) := by decide +kernel
theorem dX6_shareByCost_8 : decode cX6_shareByCost 8 = .ok (.aload_n 0, 1) := by decide +kernel
theorem dX6_shareByCost_9 : decode cX6_shareByCost 9 = .ok (.getfield 12, 3) := by decide +kernel
theorem dX6_shareByCost_12 : decode cX6_shareByCost 12 = .ok (.getfield 92, 3) := by decide +kernel
theorem dX6_shareByCost_15 : decode cX6_shareByCost 15 = .ok (.iload_n 1, 1) := by decide +kernel
theorem dX6_shareByCost_16 : decode cX6_shareByCost 16 = .ok (.aload_n 0, 1) := by decide +kernel
theorem dX6_shareByCost_17 : decode cX6_shareByCost 17 = .ok (.getfield 35, 3) := by decide +kernel
theorem dX6_shareByCost_20 : decode cX6_shareByCost 20 = .ok (.iload_n 1, 1) := by decide +kernel
theorem dX6_shareByCost_21 : decode cX6_shareByCost 21 = .ok (.iaload, 1) := by decide +kernel
theorem dX6_shareByCost_22 : decode cX6_shareByCost 22 = .ok (.ifCond .le 17, 3) := by decide +kernel
theorem dX6_shareByCost_25 : decode cX6_shareByCost 25 = .ok (.sipush 2520, 3) := by decide +kernel
theorem dX6_shareByCost_28 : decode cX6_shareByCost 28 = .ok (.aload_n 0, 1) := by decide +kernel
theorem dX6_shareByCost_29 : decode cX6_shareByCost 29 = .ok (.getfield 35, 3) := by decide +kernel
theorem dX6_shareByCost_32 : decode cX6_shareByCost 32 = .ok (.iload_n 1, 1) := by decide +kernel
theorem dX6_shareByCost_33 : decode cX6_shareByCost 33 = .ok (.iaload, 1) := by decide +kernel
theorem dX6_shareByCost_34 : decode cX6_shareByCost 34 = .ok (.idiv, 1) := by decide +kernel
theorem dX6_shareByCost_35 : decode cX6_shareByCost 35 = .ok (.i2l, 1) := by decide +kernel
theorem dX6_shareByCost_36 : decode cX6_shareByCost 36 = .ok (.goto 4, 3) := by decide +kernel
theorem dX6_shareByCost_39 : decode cX6_shareByCost 39 = .ok (.lconst 0, 1) := by decide +kernel
theorem dX6_shareByCost_40 : decode cX6_shareByCost 40 = .ok (.lastore, 1) := by decide +kernel
theorem dX6_shareByCost_41 : decode cX6_shareByCost 41 = .ok (.iinc 1 1, 3) := by decide +kernel
theorem dX6_shareByCost_44 : decode cX6_shareByCost 44 = .ok (.goto (-42), 3) := by decide +kernel
theorem dX6_shareByCost_47 : decode cX6_shareByCost 47 = .ok (.return_, 1) := by decide +kernel
theorem dX6_gapOf_0 : decode cX6_gapOf 0 = .ok (.lconst 0, 1) := by decide +kernel
theorem dX6_gapOf_1 : decode cX6_gapOf 1 = .ok (.lstore 4, 2) := by decide +kernel
theorem dX6_gapOf_3 : decode cX6_gapOf 3 = .ok (.iconst 0, 1) := by decide +kernel
theorem dX6_gapOf_4 : decode cX6_gapOf 4 = .ok (.istore 6, 2) := by decide +kernel
theorem dX6_gapOf_6 : decode cX6_gapOf 6 = .ok (.iload 6, 2) := by decide +kernel
theorem dX6_gapOf_8 : decode cX6_gapOf 8 = .ok (.bipush 6, 2) := by decide +kernel
theorem dX6_gapOf_10 : decode cX6_gapOf 10 = .ok (.if_icmp .ge 47, 3) := by decide +kernel
theorem dX6_gapOf_13 : decode cX6_gapOf 13 = .ok (.aload_n 0, 1) := by decide +kernel
theorem dX6_gapOf_14 : decode cX6_gapOf 14 = .ok (.getfield 38, 3) := by decide +kernel
theorem dX6_gapOf_17 : decode cX6_gapOf 17 = .ok (.iload_n 1, 1) := by decide +kernel
theorem dX6_gapOf_18 : decode cX6_gapOf 18 = .ok (.iload_n 2, 1) := by decide +kernel
theorem dX6_gapOf_19 : decode cX6_gapOf 19 = .ok (.iload 6, 2) := by decide +kernel
theorem dX6_gapOf_21 : decode cX6_gapOf 21 = .ok (.iload_n 3, 1) := by decide +kernel
theorem dX6_gapOf_22 : decode cX6_gapOf 22 = .ok (.invokestatic 65, 3) := by decide +kernel
theorem dX6_gapOf_25 : decode cX6_gapOf 25 = .ok (.laload, 1) := by decide +kernel
theorem dX6_gapOf_26 : decode cX6_gapOf 26 = .ok (.lstore 7, 2) := by decide +kernel
theorem dX6_gapOf_28 : decode cX6_gapOf 28 = .ok (.lload 4, 2) := by decide +kernel
theorem dX6_gapOf_30 : decode cX6_gapOf 30 = .ok (.aload_n 0, 1) := by decide +kernel
theorem dX6_gapOf_31 : decode cX6_gapOf 31 = .ok (.getfield 18, 3) := by decide +kernel
theorem dX6_gapOf_34 : decode cX6_gapOf 34 = .ok (.iload 6, 2) := by decide +kernel
theorem dX6_gapOf_36 : decode cX6_gapOf 36 = .ok (.baload, 1) := by decide +kernel
theorem dX6_gapOf_37 : decode cX6_gapOf 37 = .ok (.ifCond .eq 8, 3) := by decide +kernel
theorem dX6_gapOf_40 : decode cX6_gapOf 40 = .ok (.lload 7, 2) := by decide +kernel
theorem dX6_gapOf_42 : decode cX6_gapOf 42 = .ok (.goto 6, 3) := by decide +kernel
theorem dX6_gapOf_45 : decode cX6_gapOf 45 = .ok (.lload 7, 2) := by decide +kernel
theorem dX6_gapOf_47 : decode cX6_gapOf 47 = .ok (.lneg, 1) := by decide +kernel
theorem dX6_gapOf_48 : decode cX6_gapOf 48 = .ok (.ladd, 1) := by decide +kernel
theorem dX6_gapOf_49 : decode cX6_gapOf 49 = .ok (.lstore 4, 2) := by decide +kernel
theorem dX6_gapOf_51 : decode cX6_gapOf 51 = .ok (.iinc 6 1, 3) := by decide +kernel
theorem dX6_gapOf_54 : decode cX6_gapOf 54 = .ok (.goto (-48), 3) := by decide +kernel
theorem dX6_gapOf_57 : decode cX6_gapOf 57 = .ok (.lload 4, 2) := by decide +kernel
theorem dX6_gapOf_59 : decode cX6_gapOf 59 = .ok (.lreturn, 1) := by decide +kernel
theorem dX6_isOpen_0 : decode cX6_isOpen 0 = .ok (.iconst 0, 1) := by decide +kernel
theorem dX6_isOpen_1 : decode cX6_isOpen 1 = .ok (.istore 4, 2) := by decide +kernel
theorem dX6_isOpen_3 : decode cX6_isOpen 3 = .ok (.iload 4, 2) := by decide +kernel
theorem dX6_isOpen_5 : decode cX6_isOpen 5 = .ok (.bipush 6, 2) := by decide +kernel
theorem dX6_isOpen_7 : decode cX6_isOpen 7 = .ok (.if_icmp .ge 26, 3) := by decide +kernel
theorem dX6_isOpen_10 : decode cX6_isOpen 10 = .ok (.aload_n 0, 1) := by decide +kernel
theorem dX6_isOpen_11 : decode cX6_isOpen 11 = .ok (.getfield 22, 3) := by decide +kernel
theorem dX6_isOpen_14 : decode cX6_isOpen 14 = .ok (.iload_n 1, 1) := by decide +kernel
theorem dX6_isOpen_15 : decode cX6_isOpen 15 = .ok (.iload_n 2, 1) := by decide +kernel
theorem dX6_isOpen_16 : decode cX6_isOpen 16 = .ok (.iload 4, 2) := by decide +kernel
theorem dX6_isOpen_18 : decode cX6_isOpen 18 = .ok (.invokestatic 115, 3) := by decide +kernel
theorem dX6_isOpen_21 : decode cX6_isOpen 21 = .ok (.baload, 1) := by decide +kernel
theorem dX6_isOpen_22 : decode cX6_isOpen 22 = .ok (.ifCond .ne 5, 3) := by decide +kernel
theorem dX6_isOpen_25 : decode cX6_isOpen 25 = .ok (.iconst 0, 1) := by decide +kernel
theorem dX6_isOpen_26 : decode cX6_isOpen 26 = .ok (.ireturn, 1) := by decide +kernel
theorem dX6_isOpen_27 : decode cX6_isOpen 27 = .ok (.iinc 4 1, 3) := by decide +kernel
theorem dX6_isOpen_30 : decode cX6_isOpen 30 = .ok (.goto (-27), 3) := by decide +kernel
theorem dX6_isOpen_33 : decode cX6_isOpen 33 = .ok (.aload_n 0, 1) := by decide +kernel
theorem dX6_isOpen_34 : decode cX6_isOpen 34 = .ok (.iload_n 1, 1) := by decide +kernel
theorem dX6_isOpen_35 : decode cX6_isOpen 35 = .ok (.iload_n 2, 1) := by decide +kernel
theorem dX6_isOpen_36 : decode cX6_isOpen 36 = .ok (.iload_n 3, 1) := by decide +kernel
theorem dX6_isOpen_37 : decode cX6_isOpen 37 = .ok (.invokevirtual 111, 3) := by decide +kernel
theorem dX6_isOpen_40 : decode cX6_isOpen 40 = .ok (.lconst 0, 1) := by decide +kernel
theorem dX6_isOpen_41 : decode cX6_isOpen 41 = .ok (.lcmp, 1) := by decide +kernel
theorem dX6_isOpen_42 : decode cX6_isOpen 42 = .ok (.ifCond .eq 7, 3) := by decide +kernel
theorem dX6_isOpen_45 : decode cX6_isOpen 45 = .ok (.iconst 1, 1) := by decide +kernel
theorem dX6_isOpen_46 : decode cX6_isOpen 46 = .ok (.goto 4, 3) := by decide +kernel
theorem dX6_isOpen_49 : decode cX6_isOpen 49 = .ok (.iconst 0, 1) := by decide +kernel
theorem dX6_isOpen_50 : decode cX6_isOpen 50 = .ok (.ireturn, 1) := by decide +kernel
theorem dX6_movesOf_0 : decode cX6_movesOf 0 = .ok (.lconst 0, 1) := by decide +kernel
theorem dX6_movesOf_1 : decode cX6_movesOf 1 = .ok (.lstore 4, 2) := by decide +kernel
theorem dX6_movesOf_3 : decode cX6_movesOf 3 = .ok (.iconst 0, 1) := by decide +kernel
theorem dX6_movesOf_4 : decode cX6_movesOf 4 = .ok (.istore 6, 2) := by decide +kernel
theorem dX6_movesOf_6 : decode cX6_movesOf 6 = .ok (.iload 6, 2) := by decide +kernel
theorem dX6_movesOf_8 : decode cX6_movesOf 8 = .ok (.bipush 6, 2) := by decide +kernel
theorem dX6_movesOf_10 : decode cX6_movesOf 10 = .ok (.if_icmp .ge 42, 3) := by decide +kernel
theorem dX6_movesOf_13 : decode cX6_movesOf 13 = .ok (.iload_n 1, 1) := by decide +kernel
theorem dX6_movesOf_14 : decode cX6_movesOf 14 = .ok (.iload_n 2, 1) := by decide +kernel
theorem dX6_movesOf_15 : decode cX6_movesOf 15 = .ok (.iload 6, 2) := by decide +kernel
theorem dX6_movesOf_17 : decode cX6_movesOf 17 = .ok (.iload_n 3, 1) := by decide +kernel
theorem dX6_movesOf_18 : decode cX6_movesOf 18 = .ok (.invokestatic 65, 3) := by decide +kernel
theorem dX6_movesOf_21 : decode cX6_movesOf 21 = .ok (.istore 7, 2) := by decide +kernel
theorem dX6_movesOf_23 : decode cX6_movesOf 23 = .ok (.lload 4, 2) := by decide +kernel
theorem dX6_movesOf_25 : decode cX6_movesOf 25 = .ok (.aload_n 0, 1) := by decide +kernel
theorem dX6_movesOf_26 : decode cX6_movesOf 26 = .ok (.getfield 42, 3) := by decide +kernel
theorem dX6_movesOf_29 : decode cX6_movesOf 29 = .ok (.iload 7, 2) := by decide +kernel
theorem dX6_movesOf_31 : decode cX6_movesOf 31 = .ok (.laload, 1) := by decide +kernel
theorem dX6_movesOf_32 : decode cX6_movesOf 32 = .ok (.aload_n 0, 1) := by decide +kernel
theorem dX6_movesOf_33 : decode cX6_movesOf 33 = .ok (.getfield 38, 3) := by decide +kernel
theorem dX6_movesOf_36 : decode cX6_movesOf 36 = .ok (.iload 7, 2) := by decide +kernel
theorem dX6_movesOf_38 : decode cX6_movesOf 38 = .ok (.laload, 1) := by decide +kernel
theorem dX6_movesOf_39 : decode cX6_movesOf 39 = .ok (.lsub, 1) := by decide +kernel
theorem dX6_movesOf_40 : decode cX6_movesOf 40 = .ok (.invokestatic 118, 3) := by decide +kernel
theorem dX6_movesOf_43 : decode cX6_movesOf 43 = .ok (.ladd, 1) := by decide +kernel
theorem dX6_movesOf_44 : decode cX6_movesOf 44 = .ok (.lstore 4, 2) := by decide +kernel
theorem dX6_movesOf_46 : decode cX6_movesOf 46 = .ok (.iinc 6 1, 3) := by decide +kernel
theorem dX6_movesOf_49 : decode cX6_movesOf 49 = .ok (.goto (-43), 3) := by decide +kernel
theorem dX6_movesOf_52 : decode cX6_movesOf 52 = .ok (.lload 4, 2) := by decide +kernel
theorem dX6_movesOf_54 : decode cX6_movesOf 54 = .ok (.lreturn, 1) := by decide +kernel
theorem dX6_sumOf_0 : decode cX6_sumOf 0 = .ok (.lconst 0, 1) := by decide +kernel
theorem dX6_sumOf_1 : decode cX6_sumOf 1 = .ok (.lstore 5, 2) := by decide +kernel
theorem dX6_sumOf_3 : decode cX6_sumOf 3 = .ok (.iconst 0, 1) := by decide +kernel
theorem dX6_sumOf_4 : decode cX6_sumOf 4 = .ok (.istore 7, 2) := by decide +kernel
theorem dX6_sumOf_6 : decode cX6_sumOf 6 = .ok (.iload 7, 2) := by decide +kernel
theorem dX6_sumOf_8 : decode cX6_sumOf 8 = .ok (.iconst 2, 1) := by decide +kernel
theorem dX6_sumOf_9 : decode cX6_sumOf 9 = .ok (.if_icmp .ge 66, 3) := by decide +kernel
theorem dX6_sumOf_12 : decode cX6_sumOf 12 = .ok (.iconst 0, 1) := by decide +kernel
theorem dX6_sumOf_13 : decode cX6_sumOf 13 = .ok (.istore 8, 2) := by decide +kernel
theorem dX6_sumOf_15 : decode cX6_sumOf 15 = .ok (.iload 8, 2) := by decide +kernel
theorem dX6_sumOf_17 : decode cX6_sumOf 17 = .ok (.iconst 4, 1) := by decide +kernel
theorem dX6_sumOf_18 : decode cX6_sumOf 18 = .ok (.if_icmp .ge 51, 3) := by decide +kernel
theorem dX6_sumOf_21 : decode cX6_sumOf 21 = .ok (.iload_n 1, 1) := by decide +kernel
theorem dX6_sumOf_22 : decode cX6_sumOf 22 = .ok (.iconst (-1), 1) := by decide +kernel
theorem dX6_sumOf_23 : decode cX6_sumOf 23 = .ok (.if_icmp .eq 9, 3) := by decide +kernel
theorem dX6_sumOf_26 : decode cX6_sumOf 26 = .ok (.iload_n 1, 1) := by decide +kernel
theorem dX6_sumOf_27 : decode cX6_sumOf 27 = .ok (.iload 7, 2) := by decide +kernel
theorem dX6_sumOf_29 : decode cX6_sumOf 29 = .ok (.if_icmp .ne 34, 3) := by decide +kernel
theorem dX6_sumOf_32 : decode cX6_sumOf 32 = .ok (.iload_n 2, 1) := by decide +kernel
theorem dX6_sumOf_33 : decode cX6_sumOf 33 = .ok (.iconst (-1), 1) := by decide +kernel
theorem dX6_sumOf_34 : decode cX6_sumOf 34 = .ok (.if_icmp .eq 9, 3) := by decide +kernel
theorem dX6_sumOf_37 : decode cX6_sumOf 37 = .ok (.iload_n 2, 1) := by decide +kernel
theorem dX6_sumOf_38 : decode cX6_sumOf 38 = .ok (.iload 8, 2) := by decide +kernel
theorem dX6_sumOf_40 : decode cX6_sumOf 40 = .ok (.if_icmp .ne 23, 3) := by decide +kernel
theorem dX6_sumOf_43 : decode cX6_sumOf 43 = .ok (.lload 5, 2) := by decide +kernel
theorem dX6_sumOf_45 : decode cX6_sumOf 45 = .ok (.aload_n 0, 1) := by decide +kernel
theorem dX6_sumOf_46 : decode cX6_sumOf 46 = .ok (.getfield 42, 3) := by decide +kernel
theorem dX6_sumOf_49 : decode cX6_sumOf 49 = .ok (.iload 7, 2) := by decide +kernel
theorem dX6_sumOf_51 : decode cX6_sumOf 51 = .ok (.iload 8, 2) := by decide +kernel
theorem dX6_sumOf_53 : decode cX6_sumOf 53 = .ok (.iload_n 3, 1) := by decide +kernel
theorem dX6_sumOf_54 : decode cX6_sumOf 54 = .ok (.iload 4, 2) := by decide +kernel
theorem dX6_sumOf_56 : decode cX6_sumOf 56 = .ok (.invokestatic 65, 3) := by decide +kernel
theorem dX6_sumOf_59 : decode cX6_sumOf 59 = .ok (.laload, 1) := by decide +kernel
theorem dX6_sumOf_60 : decode cX6_sumOf 60 = .ok (.ladd, 1) := by decide +kernel
theorem dX6_sumOf_61 : decode cX6_sumOf 61 = .ok (.lstore 5, 2) := by decide +kernel
theorem dX6_sumOf_63 : decode cX6_sumOf 63 = .ok (.iinc 8 1, 3) := by decide +kernel
theorem dX6_sumOf_66 : decode cX6_sumOf 66 = .ok (.goto (-51), 3) := by decide +kernel
theorem dX6_sumOf_69 : decode cX6_sumOf 69 = .ok (.iinc 7 1, 3) := by decide +kernel
theorem dX6_sumOf_72 : decode cX6_sumOf 72 = .ok (.goto (-66), 3) := by decide +kernel
theorem dX6_sumOf_75 : decode cX6_sumOf 75 = .ok (.lload 5, 2) := by decide +kernel
theorem dX6_sumOf_77 : decode cX6_sumOf 77 = .ok (.lreturn, 1) := by decide +kernel
theorem dX6_firstCellOf_0 : decode cX6_firstCellOf 0 = .ok (.iload_n 0, 1) := by decide +kernel
theorem dX6_firstCellOf_1 : decode cX6_firstCellOf 1 = .ok (.invokestatic 124, 3) := by decide +kernel
theorem dX6_firstCellOf_4 : decode cX6_firstCellOf 4 = .ok (.bipush 12, 2) := by decide +kernel
theorem dX6_firstCellOf_6 : decode cX6_firstCellOf 6 = .ok (.imul, 1) := by decide +kernel
theorem dX6_firstCellOf_7 : decode cX6_firstCellOf 7 = .ok (.iload_n 0, 1) := by decide +kernel
theorem dX6_firstCellOf_8 : decode cX6_firstCellOf 8 = .ok (.invokestatic 128, 3) := by decide +kernel
theorem dX6_firstCellOf_11 : decode cX6_firstCellOf 11 = .ok (.iconst 4, 1) := by decide +kernel
theorem dX6_firstCellOf_12 : decode cX6_firstCellOf 12 = .ok (.imul, 1) := by decide +kernel
theorem dX6_firstCellOf_13 : decode cX6_firstCellOf 13 = .ok (.iadd, 1) := by decide +kernel
theorem dX6_firstCellOf_14 : decode cX6_firstCellOf 14 = .ok (.ireturn, 1) := by decide +kernel
theorem dX6_isAllSaid_0 : decode cX6_isAllSaid 0 = .ok (.iload_n 1, 1) := by decide +kernel
theorem dX6_isAllSaid_1 : decode cX6_isAllSaid 1 = .ok (.invokestatic 131, 3) := by decide +kernel
theorem dX6_isAllSaid_4 : decode cX6_isAllSaid 4 = .ok (.istore_n 2, 1) := by decide +kernel
theorem dX6_isAllSaid_5 : decode cX6_isAllSaid 5 = .ok (.iconst 0, 1) := by decide +kernel
theorem dX6_isAllSaid_6 : decode cX6_isAllSaid 6 = .ok (.istore_n 3, 1) := by decide +kernel
theorem dX6_isAllSaid_7 : decode cX6_isAllSaid 7 = .ok (.iload_n 3, 1) := by decide +kernel
theorem dX6_isAllSaid_8 : decode cX6_isAllSaid 8 = .ok (.iconst 4, 1) := by decide +kernel
theorem dX6_isAllSaid_9 : decode cX6_isAllSaid 9 = .ok (.if_icmp .ge 22, 3) := by decide +kernel
theorem dX6_isAllSaid_12 : decode cX6_isAllSaid 12 = .ok (.aload_n 0, 1) := by decide +kernel
theorem dX6_isAllSaid_13 : decode cX6_isAllSaid 13 = .ok (.getfield 32, 3) := by decide +kernel
theorem dX6_isAllSaid_16 : decode cX6_isAllSaid 16 = .ok (.iload_n 2, 1) := by decide +kernel
theorem dX6_isAllSaid_17 : decode cX6_isAllSaid 17 = .ok (.iload_n 3, 1) := by decide +kernel
theorem dX6_isAllSaid_18 : decode cX6_isAllSaid 18 = .ok (.iadd, 1) := by decide +kernel
theorem dX6_isAllSaid_19 : decode cX6_isAllSaid 19 = .ok (.iaload, 1) := by decide +kernel
theorem dX6_isAllSaid_20 : decode cX6_isAllSaid 20 = .ok (.ifCond .ne 5, 3) := by decide +kernel
theorem dX6_isAllSaid_23 : decode cX6_isAllSaid 23 = .ok (.iconst 0, 1) := by decide +kernel
theorem dX6_isAllSaid_24 : decode cX6_isAllSaid 24 = .ok (.ireturn, 1) := by decide +kernel
theorem dX6_isAllSaid_25 : decode cX6_isAllSaid 25 = .ok (.iinc 3 1, 3) := by decide +kernel
theorem dX6_isAllSaid_28 : decode cX6_isAllSaid 28 = .ok (.goto (-21), 3) := by decide +kernel
theorem dX6_isAllSaid_31 : decode cX6_isAllSaid 31 = .ok (.aload_n 0, 1) := by decide +kernel
theorem dX6_isAllSaid_32 : decode cX6_isAllSaid 32 = .ok (.getfield 32, 3) := by decide +kernel
theorem dX6_isAllSaid_35 : decode cX6_isAllSaid 35 = .ok (.iload_n 1, 1) := by decide +kernel
theorem dX6_isAllSaid_36 : decode cX6_isAllSaid 36 = .ok (.iaload, 1) := by decide +kernel
theorem dX6_isAllSaid_37 : decode cX6_isAllSaid 37 = .ok (.ifCond .le 7, 3) := by decide +kernel
theorem dX6_isAllSaid_40 : decode cX6_isAllSaid 40 = .ok (.iconst 1, 1) := by decide +kernel
theorem dX6_isAllSaid_41 : decode cX6_isAllSaid 41 = .ok (.goto 4, 3) := by decide +kernel
theorem dX6_isAllSaid_44 : decode cX6_isAllSaid 44 = .ok (.iconst 0, 1) := by decide +kernel
theorem dX6_isAllSaid_45 : decode cX6_isAllSaid 45 = .ok (.ireturn, 1) := by decide +kernel
theorem dX6_shapeOf_0 : decode cX6_shapeOf 0 = .ok (.iload_n 1, 1) := by decide +kernel
theorem dX6_shapeOf_1 : decode cX6_shapeOf 1 = .ok (.invokestatic 131, 3) := by decide +kernel
theorem dX6_shapeOf_4 : decode cX6_shapeOf 4 = .ok (.istore_n 2, 1) := by decide +kernel
theorem dX6_shapeOf_5 : decode cX6_shapeOf 5 = .ok (.lconst 0, 1) := by decide +kernel
theorem dX6_shapeOf_6 : decode cX6_shapeOf 6 = .ok (.lstore_n 3, 1) := by decide +kernel
theorem dX6_shapeOf_7 : decode cX6_shapeOf 7 = .ok (.iconst 0, 1) := by decide +kernel
theorem dX6_shapeOf_8 : decode cX6_shapeOf 8 = .ok (.istore 5, 2) := by decide +kernel
theorem dX6_shapeOf_10 : decode cX6_shapeOf 10 = .ok (.iload 5, 2) := by decide +kernel
theorem dX6_shapeOf_12 : decode cX6_shapeOf 12 = .ok (.iconst 4, 1) := by decide +kernel
theorem dX6_shapeOf_13 : decode cX6_shapeOf 13 = .ok (.if_icmp .ge 35, 3) := by decide +kernel
theorem dX6_shapeOf_16 : decode cX6_shapeOf 16 = .ok (.lload_n 3, 1) := by decide +kernel
theorem dX6_shapeOf_17 : decode cX6_shapeOf 17 = .ok (.aload_n 0, 1) := by decide +kernel
theorem dX6_shapeOf_18 : decode cX6_shapeOf 18 = .ok (.getfield 38, 3) := by decide +kernel
theorem dX6_shapeOf_21 : decode cX6_shapeOf 21 = .ok (.iload_n 2, 1) := by decide +kernel
theorem dX6_shapeOf_22 : decode cX6_shapeOf 22 = .ok (.iload 5, 2) := by decide +kernel
theorem dX6_shapeOf_24 : decode cX6_shapeOf 24 = .ok (.iadd, 1) := by decide +kernel
theorem dX6_shapeOf_25 : decode cX6_shapeOf 25 = .ok (.laload, 1) := by decide +kernel
theorem dX6_shapeOf_26 : decode cX6_shapeOf 26 = .ok (.aload_n 0, 1) := by decide +kernel
theorem dX6_shapeOf_27 : decode cX6_shapeOf 27 = .ok (.getfield 28, 3) := by decide +kernel
theorem dX6_shapeOf_30 : decode cX6_shapeOf 30 = .ok (.iload_n 2, 1) := by decide +kernel
theorem dX6_shapeOf_31 : decode cX6_shapeOf 31 = .ok (.iload 5, 2) := by decide +kernel
theorem dX6_shapeOf_33 : decode cX6_shapeOf 33 = .ok (.iadd, 1) := by decide +kernel
theorem dX6_shapeOf_34 : decode cX6_shapeOf 34 = .ok (.iaload, 1) := by decide +kernel
theorem dX6_shapeOf_35 : decode cX6_shapeOf 35 = .ok (.i2l, 1) := by decide +kernel
theorem dX6_shapeOf_36 : decode cX6_shapeOf 36 = .ok (.lsub, 1) := by decide +kernel
theorem dX6_shapeOf_37 : decode cX6_shapeOf 37 = .ok (.invokestatic 118, 3) := by decide +kernel
theorem dX6_shapeOf_40 : decode cX6_shapeOf 40 = .ok (.ladd, 1) := by decide +kernel
theorem dX6_shapeOf_41 : decode cX6_shapeOf 41 = .ok (.lstore_n 3, 1) := by decide +kernel
theorem dX6_shapeOf_42 : decode cX6_shapeOf 42 = .ok (.iinc 5 1, 3) := by decide +kernel
theorem dX6_shapeOf_45 : decode cX6_shapeOf 45 = .ok (.goto (-35), 3) := by decide +kernel
theorem dX6_shapeOf_48 : decode cX6_shapeOf 48 = .ok (.lload_n 3, 1) := by decide +kernel
theorem dX6_shapeOf_49 : decode cX6_shapeOf 49 = .ok (.lreturn, 1) := by decide +kernel
theorem dX6_isBroken_0 : decode cX6_isBroken 0 = .ok (.iload_n 1, 1) := by decide +kernel
theorem dX6_isBroken_1 : decode cX6_isBroken 1 = .ok (.invokestatic 131, 3) := by decide +kernel
theorem dX6_isBroken_4 : decode cX6_isBroken 4 = .ok (.istore_n 2, 1) := by decide +kernel
theorem dX6_isBroken_5 : decode cX6_isBroken 5 = .ok (.lconst 0, 1) := by decide +kernel
theorem dX6_isBroken_6 : decode cX6_isBroken 6 = .ok (.lstore_n 3, 1) := by decide +kernel
theorem dX6_isBroken_7 : decode cX6_isBroken 7 = .ok (.iconst 0, 1) := by decide +kernel
theorem dX6_isBroken_8 : decode cX6_isBroken 8 = .ok (.istore 5, 2) := by decide +kernel
theorem dX6_isBroken_10 : decode cX6_isBroken 10 = .ok (.iload 5, 2) := by decide +kernel
theorem dX6_isBroken_12 : decode cX6_isBroken 12 = .ok (.iconst 4, 1) := by decide +kernel
theorem dX6_isBroken_13 : decode cX6_isBroken 13 = .ok (.if_icmp .ge 21, 3) := by decide +kernel
theorem dX6_isBroken_16 : decode cX6_isBroken 16 = .ok (.lload_n 3, 1) := by decide +kernel
theorem dX6_isBroken_17 : decode cX6_isBroken 17 = .ok (.aload_n 0, 1) := by decide +kernel
theorem dX6_isBroken_18 : decode cX6_isBroken 18 = .ok (.getfield 42, 3) := by decide +kernel
theorem dX6_isBroken_21 : decode cX6_isBroken 21 = .ok (.iload_n 2, 1) := by decide +kernel
theorem dX6_isBroken_22 : decode cX6_isBroken 22 = .ok (.iload 5, 2) := by decide +kernel
theorem dX6_isBroken_24 : decode cX6_isBroken 24 = .ok (.iadd, 1) := by decide +kernel
theorem dX6_isBroken_25 : decode cX6_isBroken 25 = .ok (.laload, 1) := by decide +kernel
theorem dX6_isBroken_26 : decode cX6_isBroken 26 = .ok (.ladd, 1) := by decide +kernel
theorem dX6_isBroken_27 : decode cX6_isBroken 27 = .ok (.lstore_n 3, 1) := by decide +kernel
theorem dX6_isBroken_28 : decode cX6_isBroken 28 = .ok (.iinc 5 1, 3) := by decide +kernel
theorem dX6_isBroken_31 : decode cX6_isBroken 31 = .ok (.goto (-21), 3) := by decide +kernel
theorem dX6_isBroken_34 : decode cX6_isBroken 34 = .ok (.aload_n 0, 1) := by decide +kernel
theorem dX6_isBroken_35 : decode cX6_isBroken 35 = .ok (.getfield 32, 3) := by decide +kernel
theorem dX6_isBroken_38 : decode cX6_isBroken 38 = .ok (.iload_n 1, 1) := by decide +kernel
theorem dX6_isBroken_39 : decode cX6_isBroken 39 = .ok (.iaload, 1) := by decide +kernel
theorem dX6_isBroken_40 : decode cX6_isBroken 40 = .ok (.ifCond .le 19, 3) := by decide +kernel
theorem dX6_isBroken_43 : decode cX6_isBroken 43 = .ok (.lload_n 3, 1) := by decide +kernel
theorem dX6_isBroken_44 : decode cX6_isBroken 44 = .ok (.aload_n 0, 1) := by decide +kernel
theorem dX6_isBroken_45 : decode cX6_isBroken 45 = .ok (.getfield 28, 3) := by decide +kernel
theorem dX6_isBroken_48 : decode cX6_isBroken 48 = .ok (.iload_n 1, 1) := by decide +kernel
theorem dX6_isBroken_49 : decode cX6_isBroken 49 = .ok (.iaload, 1) := by decide +kernel
theorem dX6_isBroken_50 : decode cX6_isBroken 50 = .ok (.i2l, 1) := by decide +kernel
theorem dX6_isBroken_51 : decode cX6_isBroken 51 = .ok (.lcmp, 1) := by decide +kernel
theorem dX6_isBroken_52 : decode cX6_isBroken 52 = .ok (.ifCond .eq 7, 3) := by decide +kernel
theorem dX6_isBroken_55 : decode cX6_isBroken 55 = .ok (.iconst 1, 1) := by decide +kernel
theorem dX6_isBroken_56 : decode cX6_isBroken 56 = .ok (.goto 4, 3) := by decide +kernel
theorem dX6_isBroken_59 : decode cX6_isBroken 59 = .ok (.iconst 0, 1) := by decide +kernel
theorem dX6_isBroken_60 : decode cX6_isBroken 60 = .ok (.ireturn, 1) := by decide +kernel
theorem dX6_howManyOpen_0 : decode cX6_howManyOpen 0 = .ok (.iconst 0, 1) := by decide +kernel
theorem dX6_howManyOpen_1 : decode cX6_howManyOpen 1 = .ok (.istore_n 1, 1) := by decide +kernel
theorem dX6_howManyOpen_2 : decode cX6_howManyOpen 2 = .ok (.iconst 0, 1) := by decide +kernel
theorem dX6_howManyOpen_3 : decode cX6_howManyOpen 3 = .ok (.istore_n 2, 1) := by decide +kernel
theorem dX6_howManyOpen_4 : decode cX6_howManyOpen 4 = .ok (.iload_n 2, 1) := by decide +kernel
theorem dX6_howManyOpen_5 : decode cX6_howManyOpen 5 = .ok (.iconst 2, 1) := by decide +kernel
theorem dX6_howManyOpen_6 : decode cX6_howManyOpen 6 = .ok (.if_icmp .ge 57, 3) := by decide +kernel
theorem dX6_howManyOpen_9 : decode cX6_howManyOpen 9 = .ok (.iconst 0, 1) := by decide +kernel
theorem dX6_howManyOpen_10 : decode cX6_howManyOpen 10 = .ok (.istore_n 3, 1) := by decide +kernel
theorem dX6_howManyOpen_11 : decode cX6_howManyOpen 11 = .ok (.iload_n 3, 1) := by decide +kernel
theorem dX6_howManyOpen_12 : decode cX6_howManyOpen 12 = .ok (.iconst 4, 1) := by decide +kernel
theorem dX6_howManyOpen_13 : decode cX6_howManyOpen 13 = .ok (.if_icmp .ge 44, 3) := by decide +kernel
theorem dX6_howManyOpen_16 : decode cX6_howManyOpen 16 = .ok (.iconst 0, 1) := by decide +kernel
theorem dX6_howManyOpen_17 : decode cX6_howManyOpen 17 = .ok (.istore 4, 2) := by decide +kernel
theorem dX6_howManyOpen_19 : decode cX6_howManyOpen 19 = .ok (.iload 4, 2) := by decide +kernel
theorem dX6_howManyOpen_21 : decode cX6_howManyOpen 21 = .ok (.bipush 12, 2) := by decide +kernel
theorem dX6_howManyOpen_23 : decode cX6_howManyOpen 23 = .ok (.if_icmp .ge 28, 3) := by decide +kernel
theorem dX6_howManyOpen_26 : decode cX6_howManyOpen 26 = .ok (.iload_n 1, 1) := by decide +kernel
theorem dX6_howManyOpen_27 : decode cX6_howManyOpen 27 = .ok (.aload_n 0, 1) := by decide +kernel
theorem dX6_howManyOpen_28 : decode cX6_howManyOpen 28 = .ok (.iload_n 2, 1) := by decide +kernel
theorem dX6_howManyOpen_29 : decode cX6_howManyOpen 29 = .ok (.iload_n 3, 1) := by decide +kernel
theorem dX6_howManyOpen_30 : decode cX6_howManyOpen 30 = .ok (.iload 4, 2) := by decide +kernel
theorem dX6_howManyOpen_32 : decode cX6_howManyOpen 32 = .ok (.invokevirtual 134, 3) := by decide +kernel
theorem dX6_howManyOpen_35 : decode cX6_howManyOpen 35 = .ok (.ifCond .eq 7, 3) := by decide +kernel
theorem dX6_howManyOpen_38 : decode cX6_howManyOpen 38 = .ok (.iconst 1, 1) := by decide +kernel
theorem dX6_howManyOpen_39 : decode cX6_howManyOpen 39 = .ok (.goto 4, 3) := by decide +kernel
theorem dX6_howManyOpen_42 : decode cX6_howManyOpen 42 = .ok (.iconst 0, 1) := by decide +kernel
theorem dX6_howManyOpen_43 : decode cX6_howManyOpen 43 = .ok (.iadd, 1) := by decide +kernel
theorem dX6_howManyOpen_44 : decode cX6_howManyOpen 44 = .ok (.istore_n 1, 1) := by decide +kernel
theorem dX6_howManyOpen_45 : decode cX6_howManyOpen 45 = .ok (.iinc 4 1, 3) := by decide +kernel
theorem dX6_howManyOpen_48 : decode cX6_howManyOpen 48 = .ok (.goto (-29), 3) := by decide +kernel
theorem dX6_howManyOpen_51 : decode cX6_howManyOpen 51 = .ok (.iinc 3 1, 3) := by decide +kernel
theorem dX6_howManyOpen_54 : decode cX6_howManyOpen 54 = .ok (.goto (-43), 3) := by decide +kernel
theorem dX6_howManyOpen_57 : decode cX6_howManyOpen 57 = .ok (.iinc 2 1, 3) := by decide +kernel
theorem dX6_howManyOpen_60 : decode cX6_howManyOpen 60 = .ok (.goto (-56), 3) := by decide +kernel
theorem dX6_howManyOpen_63 : decode cX6_howManyOpen 63 = .ok (.iload_n 1, 1) := by decide +kernel
theorem dX6_howManyOpen_64 : decode cX6_howManyOpen 64 = .ok (.ireturn, 1) := by decide +kernel
theorem dX6_howManyBroken_0 : decode cX6_howManyBroken 0 = .ok (.iconst 0, 1) := by decide +kernel
theorem dX6_howManyBroken_1 : decode cX6_howManyBroken 1 = .ok (.istore_n 1, 1) := by decide +kernel
theorem dX6_howManyBroken_2 : decode cX6_howManyBroken 2 = .ok (.sipush 576, 3) := by decide +kernel
theorem dX6_howManyBroken_5 : decode cX6_howManyBroken 5 = .ok (.istore_n 2, 1) := by decide +kernel
theorem dX6_howManyBroken_6 : decode cX6_howManyBroken 6 = .ok (.iload_n 2, 1) := by decide +kernel
theorem dX6_howManyBroken_7 : decode cX6_howManyBroken 7 = .ok (.sipush 720, 3) := by decide +kernel
theorem dX6_howManyBroken_10 : decode cX6_howManyBroken 10 = .ok (.if_icmp .ge 25, 3) := by decide +kernel
theorem dX6_howManyBroken_13 : decode cX6_howManyBroken 13 = .ok (.iload_n 1, 1) := by decide +kernel
theorem dX6_howManyBroken_14 : decode cX6_howManyBroken 14 = .ok (.aload_n 0, 1) := by decide +kernel
theorem dX6_howManyBroken_15 : decode cX6_howManyBroken 15 = .ok (.iload_n 2, 1) := by decide +kernel
theorem dX6_howManyBroken_16 : decode cX6_howManyBroken 16 = .ok (.invokevirtual 138, 3) := by decide +kernel
theorem dX6_howManyBroken_19 : decode cX6_howManyBroken 19 = .ok (.ifCond .eq 7, 3) := by decide +kernel
theorem dX6_howManyBroken_22 : decode cX6_howManyBroken 22 = .ok (.iconst 1, 1) := by decide +kernel
theorem dX6_howManyBroken_23 : decode cX6_howManyBroken 23 = .ok (.goto 4, 3) := by decide +kernel
theorem dX6_howManyBroken_26 : decode cX6_howManyBroken 26 = .ok (.iconst 0, 1) := by decide +kernel
theorem dX6_howManyBroken_27 : decode cX6_howManyBroken 27 = .ok (.iadd, 1) := by decide +kernel
theorem dX6_howManyBroken_28 : decode cX6_howManyBroken 28 = .ok (.istore_n 1, 1) := by decide +kernel
theorem dX6_howManyBroken_29 : decode cX6_howManyBroken 29 = .ok (.iinc 2 1, 3) := by decide +kernel
theorem dX6_howManyBroken_32 : decode cX6_howManyBroken 32 = .ok (.goto (-26), 3) := by decide +kernel
theorem dX6_howManyBroken_35 : decode cX6_howManyBroken 35 = .ok (.iload_n 1, 1) := by decide +kernel
theorem dX6_howManyBroken_36 : decode cX6_howManyBroken 36 = .ok (.ireturn, 1) := by decide +kernel
theorem dX6_findBroken_0 : decode cX6_findBroken 0 = .ok (.iload_n 1, 1) := by decide +kernel
theorem dX6_findBroken_1 : decode cX6_findBroken 1 = .ok (.istore_n 2, 1) := by decide +kernel
theorem dX6_findBroken_2 : decode cX6_findBroken 2 = .ok (.sipush 576, 3) := by decide +kernel
theorem dX6_findBroken_5 : decode cX6_findBroken 5 = .ok (.istore_n 3, 1) := by decide +kernel
theorem dX6_findBroken_6 : decode cX6_findBroken 6 = .ok (.iload_n 3, 1) := by decide +kernel
theorem dX6_findBroken_7 : decode cX6_findBroken 7 = .ok (.sipush 720, 3) := by decide +kernel
theorem dX6_findBroken_10 : decode cX6_findBroken 10 = .ok (.if_icmp .ge 26, 3) := by decide +kernel
theorem dX6_findBroken_13 : decode cX6_findBroken 13 = .ok (.aload_n 0, 1) := by decide +kernel
theorem dX6_findBroken_14 : decode cX6_findBroken 14 = .ok (.iload_n 3, 1) := by decide +kernel
theorem dX6_findBroken_15 : decode cX6_findBroken 15 = .ok (.invokevirtual 138, 3) := by decide +kernel
theorem dX6_findBroken_18 : decode cX6_findBroken 18 = .ok (.ifCond .eq 12, 3) := by decide +kernel
theorem dX6_findBroken_21 : decode cX6_findBroken 21 = .ok (.iload_n 2, 1) := by decide +kernel
theorem dX6_findBroken_22 : decode cX6_findBroken 22 = .ok (.ifCond .ne 5, 3) := by decide +kernel
theorem dX6_findBroken_25 : decode cX6_findBroken 25 = .ok (.iload_n 3, 1) := by decide +kernel
theorem dX6_findBroken_26 : decode cX6_findBroken 26 = .ok (.ireturn, 1) := by decide +kernel
theorem dX6_findBroken_27 : decode cX6_findBroken 27 = .ok (.iinc 2 (-1), 3) := by decide +kernel
theorem dX6_findBroken_30 : decode cX6_findBroken 30 = .ok (.iinc 3 1, 3) := by decide +kernel
theorem dX6_findBroken_33 : decode cX6_findBroken 33 = .ok (.goto (-27), 3) := by decide +kernel
theorem dX6_findBroken_36 : decode cX6_findBroken 36 = .ok (.iconst (-1), 1) := by decide +kernel
theorem dX6_findBroken_37 : decode cX6_findBroken 37 = .ok (.ireturn, 1) := by decide +kernel
theorem dX7_init_0 : decode cX7_init 0 = .ok (.aload_n 0, 1) := by decide +kernel
theorem dX7_init_1 : decode cX7_init 1 = .ok (.invokespecial 3, 3) := by decide +kernel
theorem dX7_init_4 : decode cX7_init 4 = .ok (.aload_n 0, 1) := by decide +kernel
theorem dX7_init_5 : decode cX7_init 5 = .ok (.bipush 48, 2) := by decide +kernel
theorem dX7_init_7 : decode cX7_init 7 = .ok (.newarray .int, 2) := by decide +kernel
theorem dX7_init_9 : decode cX7_init 9 = .ok (.putfield 9, 3) := by decide +kernel
theorem dX7_init_12 : decode cX7_init 12 = .ok (.aload_n 0, 1) := by decide +kernel
theorem dX7_init_13 : decode cX7_init 13 = .ok (.new 15, 3) := by decide +kernel
theorem dX7_init_16 : decode cX7_init 16 = .ok (.dup, 1) := by decide +kernel
theorem dX7_init_17 : decode cX7_init 17 = .ok (.invokespecial 17, 3) := by decide +kernel
theorem dX7_init_20 : decode cX7_init 20 = .ok (.putfield 18, 3) := by decide +kernel
theorem dX7_init_23 : decode cX7_init 23 = .ok (.aload_n 0, 1) := by decide +kernel
theorem dX7_init_24 : decode cX7_init 24 = .ok (.aload_n 1, 1) := by decide +kernel
theorem dX7_init_25 : decode cX7_init 25 = .ok (.putfield 22, 3) := by decide +kernel
theorem dX7_init_28 : decode cX7_init 28 = .ok (.aload_n 0, 1) := by decide +kernel
theorem dX7_init_29 : decode cX7_init 29 = .ok (.getfield 9, 3) := by decide +kernel
theorem dX7_init_32 : decode cX7_init 32 = .ok (.bipush 100, 2) := by decide +kernel
theorem dX7_init_34 : decode cX7_init 34 = .ok (.invokestatic 26, 3) := by decide +kernel
theorem dX7_init_37 : decode cX7_init 37 = .ok (.return_, 1) := by decide +kernel
theorem dX7_volumeOf_0 : decode cX7_volumeOf 0 = .ok (.aload_n 0, 1) := by decide +kernel
theorem dX7_volumeOf_1 : decode cX7_volumeOf 1 = .ok (.getfield 9, 3) := by decide +kernel
theorem dX7_volumeOf_4 : decode cX7_volumeOf 4 = .ok (.iload_n 1, 1) := by decide +kernel
theorem dX7_volumeOf_5 : decode cX7_volumeOf 5 = .ok (.bipush 12, 2) := by decide +kernel
theorem dX7_volumeOf_7 : decode cX7_volumeOf 7 = .ok (.imul, 1) := by decide +kernel
theorem dX7_volumeOf_8 : decode cX7_volumeOf 8 = .ok (.iload_n 3, 1) := by decide +kernel
theorem dX7_volumeOf_9 : decode cX7_volumeOf 9 = .ok (.iadd, 1) := by decide +kernel
theorem dX7_volumeOf_10 : decode cX7_volumeOf 10 = .ok (.iaload, 1) := by decide +kernel
theorem dX7_volumeOf_11 : decode cX7_volumeOf 11 = .ok (.istore 4, 2) := by decide +kernel
theorem dX7_volumeOf_13 : decode cX7_volumeOf 13 = .ok (.ldc2_w 32, 3) := by decide +kernel
theorem dX7_volumeOf_16 : decode cX7_volumeOf 16 = .ok (.aload_n 0, 1) := by decide +kernel
theorem dX7_volumeOf_17 : decode cX7_volumeOf 17 = .ok (.getfield 22, 3) := by decide +kernel
theorem dX7_volumeOf_20 : decode cX7_volumeOf 20 = .ok (.iconst (-1), 1) := by decide +kernel
theorem dX7_volumeOf_21 : decode cX7_volumeOf 21 = .ok (.iload_n 1, 1) := by decide +kernel
theorem dX7_volumeOf_22 : decode cX7_volumeOf 22 = .ok (.iload_n 2, 1) := by decide +kernel
theorem dX7_volumeOf_23 : decode cX7_volumeOf 23 = .ok (.iload_n 3, 1) := by decide +kernel
theorem dX7_volumeOf_24 : decode cX7_volumeOf 24 = .ok (.invokevirtual 34, 3) := by decide +kernel
theorem dX7_volumeOf_27 : decode cX7_volumeOf 27 = .ok (.lmul, 1) := by decide +kernel
theorem dX7_volumeOf_28 : decode cX7_volumeOf 28 = .ok (.lstore 5, 2) := by decide +kernel
theorem dX7_volumeOf_30 : decode cX7_volumeOf 30 = .ok (.iload 4, 2) := by decide +kernel
theorem dX7_volumeOf_32 : decode cX7_volumeOf 32 = .ok (.ifCond .le 14, 3) := by decide +kernel
theorem dX7_volumeOf_35 : decode cX7_volumeOf 35 = .ok (.lload 5, 2) := by decide +kernel
theorem dX7_volumeOf_37 : decode cX7_volumeOf 37 = .ok (.iload 4, 2) := by decide +kernel
theorem dX7_volumeOf_39 : decode cX7_volumeOf 39 = .ok (.i2l, 1) := by decide +kernel
theorem dX7_volumeOf_40 : decode cX7_volumeOf 40 = .ok (.invokestatic 40, 3) := by decide +kernel
theorem dX7_volumeOf_43 : decode cX7_volumeOf 43 = .ok (.goto 4, 3) := by decide +kernel
theorem dX7_volumeOf_46 : decode cX7_volumeOf 46 = .ok (.lconst 0, 1) := by decide +kernel
theorem dX7_volumeOf_47 : decode cX7_volumeOf 47 = .ok (.lreturn, 1) := by decide +kernel
theorem dX7_meanPriceOf_0 : decode cX7_meanPriceOf 0 = .ok (.iload_n 1, 1) := by decide +kernel
theorem dX7_meanPriceOf_1 : decode cX7_meanPriceOf 1 = .ok (.bipush 12, 2) := by decide +kernel
theorem dX7_meanPriceOf_3 : decode cX7_meanPriceOf 3 = .ok (.imul, 1) := by decide +kernel
theorem dX7_meanPriceOf_4 : decode cX7_meanPriceOf 4 = .ok (.iload_n 2, 1) := by decide +kernel
theorem dX7_meanPriceOf_5 : decode cX7_meanPriceOf 5 = .ok (.iconst 4, 1) := by decide +kernel
theorem dX7_meanPriceOf_6 : decode cX7_meanPriceOf 6 = .ok (.imul, 1) := by decide +kernel
theorem dX7_meanPriceOf_7 : decode cX7_meanPriceOf 7 = .ok (.iadd, 1) := by decide +kernel
theorem dX7_meanPriceOf_8 : decode cX7_meanPriceOf 8 = .ok (.istore_n 3, 1) := by decide +kernel
theorem dX7_meanPriceOf_9 : decode cX7_meanPriceOf 9 = .ok (.lconst 0, 1) := by decide +kernel
theorem dX7_meanPriceOf_10 : decode cX7_meanPriceOf 10 = .ok (.lstore 4, 2) := by decide +kernel
theorem dX7_meanPriceOf_12 : decode cX7_meanPriceOf 12 = .ok (.iconst 0, 1) := by decide +kernel
theorem dX7_meanPriceOf_13 : decode cX7_meanPriceOf 13 = .ok (.istore 6, 2) := by decide +kernel
theorem dX7_meanPriceOf_15 : decode cX7_meanPriceOf 15 = .ok (.iload 6, 2) := by decide +kernel
theorem dX7_meanPriceOf_17 : decode cX7_meanPriceOf 17 = .ok (.iconst 4, 1) := by decide +kernel
theorem dX7_meanPriceOf_18 : decode cX7_meanPriceOf 18 = .ok (.if_icmp .ge 24, 3) := by decide +kernel
theorem dX7_meanPriceOf_21 : decode cX7_meanPriceOf 21 = .ok (.lload 4, 2) := by decide +kernel
theorem dX7_meanPriceOf_23 : decode cX7_meanPriceOf 23 = .ok (.aload_n 0, 1) := by decide +kernel
theorem dX7_meanPriceOf_24 : decode cX7_meanPriceOf 24 = .ok (.getfield 9, 3) := by decide +kernel
theorem dX7_meanPriceOf_27 : decode cX7_meanPriceOf 27 = .ok (.iload_n 3, 1) := by decide +kernel
theorem dX7_meanPriceOf_28 : decode cX7_meanPriceOf 28 = .ok (.iload 6, 2) := by decide +kernel
theorem dX7_meanPriceOf_30 : decode cX7_meanPriceOf 30 = .ok (.iadd, 1) := by decide +kernel
theorem dX7_meanPriceOf_31 : decode cX7_meanPriceOf 31 = .ok (.iaload, 1) := by decide +kernel
theorem dX7_meanPriceOf_32 : decode cX7_meanPriceOf 32 = .ok (.i2l, 1) := by decide +kernel
theorem dX7_meanPriceOf_33 : decode cX7_meanPriceOf 33 = .ok (.ladd, 1) := by decide +kernel
theorem dX7_meanPriceOf_34 : decode cX7_meanPriceOf 34 = .ok (.lstore 4, 2) := by decide +kernel
theorem dX7_meanPriceOf_36 : decode cX7_meanPriceOf 36 = .ok (.iinc 6 1, 3) := by decide +kernel
theorem dX7_meanPriceOf_39 : decode cX7_meanPriceOf 39 = .ok (.goto (-24), 3) := by decide +kernel
theorem dX7_meanPriceOf_42 : decode cX7_meanPriceOf 42 = .ok (.lload 4, 2) := by decide +kernel
theorem dX7_meanPriceOf_44 : decode cX7_meanPriceOf 44 = .ok (.lreturn, 1) := by decide +kernel
theorem dX7_valueOf_0 : decode cX7_valueOf 0 = .ok (.lconst 0, 1) := by decide +kernel
theorem dX7_valueOf_1 : decode cX7_valueOf 1 = .ok (.lstore 5, 2) := by decide +kernel
theorem dX7_valueOf_3 : decode cX7_valueOf 3 = .ok (.iconst 0, 1) := by decide +kernel
theorem dX7_valueOf_4 : decode cX7_valueOf 4 = .ok (.istore 7, 2) := by decide +kernel
theorem dX7_valueOf_6 : decode cX7_valueOf 6 = .ok (.iload 7, 2) := by decide +kernel
theorem dX7_valueOf_8 : decode cX7_valueOf 8 = .ok (.iconst 4, 1) := by decide +kernel
theorem dX7_valueOf_9 : decode cX7_valueOf 9 = .ok (.if_icmp .ge 42, 3) := by decide +kernel
theorem dX7_valueOf_12 : decode cX7_valueOf 12 = .ok (.iload_n 1, 1) := by decide +kernel
theorem dX7_valueOf_13 : decode cX7_valueOf 13 = .ok (.iconst (-1), 1) := by decide +kernel
theorem dX7_valueOf_14 : decode cX7_valueOf 14 = .ok (.if_icmp .eq 9, 3) := by decide +kernel
theorem dX7_valueOf_17 : decode cX7_valueOf 17 = .ok (.iload_n 1, 1) := by decide +kernel
theorem dX7_valueOf_18 : decode cX7_valueOf 18 = .ok (.iload 7, 2) := by decide +kernel
theorem dX7_valueOf_20 : decode cX7_valueOf 20 = .ok (.if_icmp .ne 25, 3) := by decide +kernel
theorem dX7_valueOf_23 : decode cX7_valueOf 23 = .ok (.lload 5, 2) := by decide +kernel
theorem dX7_valueOf_25 : decode cX7_valueOf 25 = .ok (.aload_n 0, 1) := by decide +kernel
theorem dX7_valueOf_26 : decode cX7_valueOf 26 = .ok (.iload 7, 2) := by decide +kernel
theorem dX7_valueOf_28 : decode cX7_valueOf 28 = .ok (.iload_n 2, 1) := by decide +kernel
theorem dX7_valueOf_29 : decode cX7_valueOf 29 = .ok (.iload_n 3, 1) := by decide +kernel
theorem dX7_valueOf_30 : decode cX7_valueOf 30 = .ok (.invokevirtual 46, 3) := by decide +kernel
theorem dX7_valueOf_33 : decode cX7_valueOf 33 = .ok (.aload_n 0, 1) := by decide +kernel
theorem dX7_valueOf_34 : decode cX7_valueOf 34 = .ok (.iload 7, 2) := by decide +kernel
theorem dX7_valueOf_36 : decode cX7_valueOf 36 = .ok (.iload 4, 2) := by decide +kernel
theorem dX7_valueOf_38 : decode cX7_valueOf 38 = .ok (.invokevirtual 50, 3) := by decide +kernel
theorem dX7_valueOf_41 : decode cX7_valueOf 41 = .ok (.lmul, 1) := by decide +kernel
theorem dX7_valueOf_42 : decode cX7_valueOf 42 = .ok (.ladd, 1) := by decide +kernel
theorem dX7_valueOf_43 : decode cX7_valueOf 43 = .ok (.lstore 5, 2) := by decide +kernel
theorem dX7_valueOf_45 : decode cX7_valueOf 45 = .ok (.iinc 7 1, 3) := by decide +kernel
theorem dX7_valueOf_48 : decode cX7_valueOf 48 = .ok (.goto (-42), 3) := by decide +kernel
theorem dX7_valueOf_51 : decode cX7_valueOf 51 = .ok (.lload 5, 2) := by decide +kernel
theorem dX7_valueOf_53 : decode cX7_valueOf 53 = .ok (.lreturn, 1) := by decide +kernel
theorem dX7_priceYearOf_0 : decode cX7_priceYearOf 0 = .ok (.iload_n 0, 1) := by decide +kernel
theorem dX7_priceYearOf_1 : decode cX7_priceYearOf 1 = .ok (.iconst 4, 1) := by decide +kernel
theorem dX7_priceYearOf_2 : decode cX7_priceYearOf 2 = .ok (.idiv, 1) := by decide +kernel
theorem dX7_priceYearOf_3 : decode cX7_priceYearOf 3 = .ok (.iconst 1, 1) := by decide +kernel
theorem dX7_priceYearOf_4 : decode cX7_priceYearOf 4 = .ok (.isub, 1) := by decide +kernel
theorem dX7_priceYearOf_5 : decode cX7_priceYearOf 5 = .ok (.iconst 0, 1) := by decide +kernel
theorem dX7_priceYearOf_6 : decode cX7_priceYearOf 6 = .ok (.invokestatic 54, 3) := by decide +kernel
theorem dX7_priceYearOf_9 : decode cX7_priceYearOf 9 = .ok (.ireturn, 1) := by decide +kernel
theorem dX7_ratio_0 : decode cX7_ratio 0 = .ok (.lload_n 2, 1) := by decide +kernel
theorem dX7_ratio_1 : decode cX7_ratio 1 = .ok (.lconst 0, 1) := by decide +kernel
theorem dX7_ratio_2 : decode cX7_ratio 2 = .ok (.lcmp, 1) := by decide +kernel
theorem dX7_ratio_3 : decode cX7_ratio 3 = .ok (.ifCond .le 15, 3) := by decide +kernel
theorem dX7_ratio_6 : decode cX7_ratio 6 = .ok (.lload_n 0, 1) := by decide +kernel
theorem dX7_ratio_7 : decode cX7_ratio 7 = .ok (.ldc2_w 58, 3) := by decide +kernel
theorem dX7_ratio_10 : decode cX7_ratio 10 = .ok (.lmul, 1) := by decide +kernel
theorem dX7_ratio_11 : decode cX7_ratio 11 = .ok (.lload_n 2, 1) := by decide +kernel
theorem dX7_ratio_12 : decode cX7_ratio 12 = .ok (.invokestatic 40, 3) := by decide +kernel
theorem dX7_ratio_15 : decode cX7_ratio 15 = .ok (.goto 6, 3) := by decide +kernel
theorem dX7_ratio_18 : decode cX7_ratio 18 = .ok (.ldc2_w 60, 3) := by decide +kernel
theorem dX7_ratio_21 : decode cX7_ratio 21 = .ok (.lreturn, 1) := by decide +kernel
theorem dX7_growthOf_0 : decode cX7_growthOf 0 = .ok (.iload_n 3, 1) := by decide +kernel
theorem dX7_growthOf_1 : decode cX7_growthOf 1 = .ok (.invokestatic 62, 3) := by decide +kernel
theorem dX7_growthOf_4 : decode cX7_growthOf 4 = .ok (.istore 4, 2) := by decide +kernel
theorem dX7_growthOf_6 : decode cX7_growthOf 6 = .ok (.aload_n 0, 1) := by decide +kernel
theorem dX7_growthOf_7 : decode cX7_growthOf 7 = .ok (.iload_n 1, 1) := by decide +kernel
theorem dX7_growthOf_8 : decode cX7_growthOf 8 = .ok (.iload_n 2, 1) := by decide +kernel
theorem dX7_growthOf_9 : decode cX7_growthOf 9 = .ok (.iload_n 3, 1) := by decide +kernel
theorem dX7_growthOf_10 : decode cX7_growthOf 10 = .ok (.iload 4, 2) := by decide +kernel
theorem dX7_growthOf_12 : decode cX7_growthOf 12 = .ok (.invokevirtual 66, 3) := by decide +kernel
theorem dX7_growthOf_15 : decode cX7_growthOf 15 = .ok (.aload_n 0, 1) := by decide +kernel
theorem dX7_growthOf_16 : decode cX7_growthOf 16 = .ok (.iload_n 1, 1) := by decide +kernel
theorem dX7_growthOf_17 : decode cX7_growthOf 17 = .ok (.iload_n 2, 1) := by decide +kernel
theorem dX7_growthOf_18 : decode cX7_growthOf 18 = .ok (.iload_n 3, 1) := by decide +kernel
theorem dX7_growthOf_19 : decode cX7_growthOf 19 = .ok (.iconst 1, 1) := by decide +kernel
theorem dX7_growthOf_20 : decode cX7_growthOf 20 = .ok (.isub, 1) := by decide +kernel
theorem dX7_growthOf_21 : decode cX7_growthOf 21 = .ok (.iload 4, 2) := by decide +kernel
theorem dX7_growthOf_23 : decode cX7_growthOf 23 = .ok (.invokevirtual 66, 3) := by decide +kernel
theorem dX7_growthOf_26 : decode cX7_growthOf 26 = .ok (.invokestatic 69, 3) := by decide +kernel
theorem dX7_growthOf_29 : decode cX7_growthOf 29 = .ok (.lreturn, 1) := by decide +kernel
theorem dX7_hasGrowth_0 : decode cX7_hasGrowth 0 = .ok (.aload_n 0, 1) := by decide +kernel
theorem dX7_hasGrowth_1 : decode cX7_hasGrowth 1 = .ok (.iconst (-1), 1) := by decide +kernel
theorem dX7_hasGrowth_2 : decode cX7_hasGrowth 2 = .ok (.iload_n 1, 1) := by decide +kernel
theorem dX7_hasGrowth_3 : decode cX7_hasGrowth 3 = .ok (.iload_n 2, 1) := by decide +kernel
theorem dX7_hasGrowth_4 : decode cX7_hasGrowth 4 = .ok (.iconst 1, 1) := by decide +kernel
theorem dX7_hasGrowth_5 : decode cX7_hasGrowth 5 = .ok (.isub, 1) := by decide +kernel
theorem dX7_hasGrowth_6 : decode cX7_hasGrowth 6 = .ok (.iload_n 2, 1) := by decide +kernel
theorem dX7_hasGrowth_7 : decode cX7_hasGrowth 7 = .ok (.invokestatic 62, 3) := by decide +kernel
theorem dX7_hasGrowth_10 : decode cX7_hasGrowth 10 = .ok (.invokevirtual 66, 3) := by decide +kernel
theorem dX7_hasGrowth_13 : decode cX7_hasGrowth 13 = .ok (.lconst 0, 1) := by decide +kernel
theorem dX7_hasGrowth_14 : decode cX7_hasGrowth 14 = .ok (.lcmp, 1) := by decide +kernel
theorem dX7_hasGrowth_15 : decode cX7_hasGrowth 15 = .ok (.ifCond .le 7, 3) := by decide +kernel
theorem dX7_hasGrowth_18 : decode cX7_hasGrowth 18 = .ok (.iconst 1, 1) := by decide +kernel
theorem dX7_hasGrowth_19 : decode cX7_hasGrowth 19 = .ok (.goto 4, 3) := by decide +kernel
theorem dX7_hasGrowth_22 : decode cX7_hasGrowth 22 = .ok (.iconst 0, 1) := by decide +kernel
theorem dX7_hasGrowth_23 : decode cX7_hasGrowth 23 = .ok (.ireturn, 1) := by decide +kernel
theorem dX7_chainOf_0 : decode cX7_chainOf 0 = .ok (.ldc2_w 58, 3) := by decide +kernel
theorem dX7_chainOf_3 : decode cX7_chainOf 3 = .ok (.lstore 4, 2) := by decide +kernel
theorem dX7_chainOf_5 : decode cX7_chainOf 5 = .ok (.iconst 1, 1) := by decide +kernel
theorem dX7_chainOf_6 : decode cX7_chainOf 6 = .ok (.istore 6, 2) := by decide +kernel
theorem dX7_chainOf_8 : decode cX7_chainOf 8 = .ok (.iload 6, 2) := by decide +kernel
theorem dX7_chainOf_10 : decode cX7_chainOf 10 = .ok (.iload_n 3, 1) := by decide +kernel
theorem dX7_chainOf_11 : decode cX7_chainOf 11 = .ok (.if_icmp .gt 75, 3) := by decide +kernel
theorem dX7_chainOf_14 : decode cX7_chainOf 14 = .ok (.iload 6, 2) := by decide +kernel
theorem dX7_chainOf_16 : decode cX7_chainOf 16 = .ok (.invokestatic 62, 3) := by decide +kernel
theorem dX7_chainOf_19 : decode cX7_chainOf 19 = .ok (.istore 7, 2) := by decide +kernel
theorem dX7_chainOf_21 : decode cX7_chainOf 21 = .ok (.aload_n 0, 1) := by decide +kernel
theorem dX7_chainOf_22 : decode cX7_chainOf 22 = .ok (.iload_n 1, 1) := by decide +kernel
theorem dX7_chainOf_23 : decode cX7_chainOf 23 = .ok (.iload_n 2, 1) := by decide +kernel
theorem dX7_chainOf_24 : decode cX7_chainOf 24 = .ok (.iload 6, 2) := by decide +kernel
theorem dX7_chainOf_26 : decode cX7_chainOf 26 = .ok (.iconst 1, 1) := by decide +kernel
theorem dX7_chainOf_27 : decode cX7_chainOf 27 = .ok (.isub, 1) := by decide +kernel
theorem dX7_chainOf_28 : decode cX7_chainOf 28 = .ok (.iload 7, 2) := by decide +kernel
theorem dX7_chainOf_30 : decode cX7_chainOf 30 = .ok (.invokevirtual 66, 3) := by decide +kernel
theorem dX7_chainOf_33 : decode cX7_chainOf 33 = .ok (.lstore 8, 2) := by decide +kernel
theorem dX7_chainOf_35 : decode cX7_chainOf 35 = .ok (.lload 8, 2) := by decide +kernel
theorem dX7_chainOf_37 : decode cX7_chainOf 37 = .ok (.lconst 0, 1) := by decide +kernel
theorem dX7_chainOf_38 : decode cX7_chainOf 38 = .ok (.lcmp, 1) := by decide +kernel
theorem dX7_chainOf_39 : decode cX7_chainOf 39 = .ok (.ifCond .le 41, 3) := by decide +kernel
theorem dX7_chainOf_42 : decode cX7_chainOf 42 = .ok (.aload_n 0, 1) := by decide +kernel
theorem dX7_chainOf_43 : decode cX7_chainOf 43 = .ok (.iload_n 1, 1) := by decide +kernel
theorem dX7_chainOf_44 : decode cX7_chainOf 44 = .ok (.iload_n 2, 1) := by decide +kernel
theorem dX7_chainOf_45 : decode cX7_chainOf 45 = .ok (.iload 6, 2) := by decide +kernel
theorem dX7_chainOf_47 : decode cX7_chainOf 47 = .ok (.iload 7, 2) := by decide +kernel
theorem dX7_chainOf_49 : decode cX7_chainOf 49 = .ok (.invokevirtual 66, 3) := by decide +kernel
theorem dX7_chainOf_52 : decode cX7_chainOf 52 = .ok (.lload 8, 2) := by decide +kernel
theorem dX7_chainOf_54 : decode cX7_chainOf 54 = .ok (.invokestatic 69, 3) := by decide +kernel
theorem dX7_chainOf_57 : decode cX7_chainOf 57 = .ok (.ldc2_w 72, 3) := by decide +kernel
theorem dX7_chainOf_60 : decode cX7_chainOf 60 = .ok (.invokestatic 74, 3) := by decide +kernel
theorem dX7_chainOf_63 : decode cX7_chainOf 63 = .ok (.lstore 10, 2) := by decide +kernel
theorem dX7_chainOf_65 : decode cX7_chainOf 65 = .ok (.lload 10, 2) := by decide +kernel
theorem dX7_chainOf_67 : decode cX7_chainOf 67 = .ok (.lload 4, 2) := by decide +kernel
theorem dX7_chainOf_69 : decode cX7_chainOf 69 = .ok (.invokestatic 77, 3) := by decide +kernel
theorem dX7_chainOf_72 : decode cX7_chainOf 72 = .ok (.ldc2_w 80, 3) := by decide +kernel
theorem dX7_chainOf_75 : decode cX7_chainOf 75 = .ok (.invokestatic 74, 3) := by decide +kernel
theorem dX7_chainOf_78 : decode cX7_chainOf 78 = .ok (.lstore 4, 2) := by decide +kernel
theorem dX7_chainOf_80 : decode cX7_chainOf 80 = .ok (.iinc 6 1, 3) := by decide +kernel
theorem dX7_chainOf_83 : decode cX7_chainOf 83 = .ok (.goto (-75), 3) := by decide +kernel
theorem dX7_chainOf_86 : decode cX7_chainOf 86 = .ok (.lload 4, 2) := by decide +kernel
theorem dX7_chainOf_88 : decode cX7_chainOf 88 = .ok (.lreturn, 1) := by decide +kernel
theorem dX7_cut_0 : decode cX7_cut 0 = .ok (.lload_n 2, 1) := by decide +kernel
theorem dX7_cut_1 : decode cX7_cut 1 = .ok (.lneg, 1) := by decide +kernel
theorem dX7_cut_2 : decode cX7_cut 2 = .ok (.lload_n 0, 1) := by decide +kernel
theorem dX7_cut_3 : decode cX7_cut 3 = .ok (.lload_n 2, 1) := by decide +kernel
theorem dX7_cut_4 : decode cX7_cut 4 = .ok (.invokestatic 82, 3) := by decide +kernel
theorem dX7_cut_7 : decode cX7_cut 7 = .ok (.invokestatic 85, 3) := by decide +kernel
theorem dX7_cut_10 : decode cX7_cut 10 = .ok (.lreturn, 1) := by decide +kernel
theorem dX7_partOf_0 : decode cX7_partOf 0 = .ok (.iload_n 3, 1) := by decide +kernel
theorem dX7_partOf_1 : decode cX7_partOf 1 = .ok (.invokestatic 62, 3) := by decide +kernel
theorem dX7_partOf_4 : decode cX7_partOf 4 = .ok (.istore 4, 2) := by decide +kernel
theorem dX7_partOf_6 : decode cX7_partOf 6 = .ok (.aload_n 0, 1) := by decide +kernel
theorem dX7_partOf_7 : decode cX7_partOf 7 = .ok (.iconst (-1), 1) := by decide +kernel
theorem dX7_partOf_8 : decode cX7_partOf 8 = .ok (.iload_n 2, 1) := by decide +kernel
theorem dX7_partOf_9 : decode cX7_partOf 9 = .ok (.iload_n 3, 1) := by decide +kernel
theorem dX7_partOf_10 : decode cX7_partOf 10 = .ok (.iconst 1, 1) := by decide +kernel
theorem dX7_partOf_11 : decode cX7_partOf 11 = .ok (.isub, 1) := by decide +kernel
theorem dX7_partOf_12 : decode cX7_partOf 12 = .ok (.iload 4, 2) := by decide +kernel
theorem dX7_partOf_14 : decode cX7_partOf 14 = .ok (.invokevirtual 66, 3) := by decide +kernel
theorem dX7_partOf_17 : decode cX7_partOf 17 = .ok (.lstore 5, 2) := by decide +kernel
theorem dX7_partOf_19 : decode cX7_partOf 19 = .ok (.aload_n 0, 1) := by decide +kernel
theorem dX7_partOf_20 : decode cX7_partOf 20 = .ok (.iconst (-1), 1) := by decide +kernel
theorem dX7_partOf_21 : decode cX7_partOf 21 = .ok (.iload_n 2, 1) := by decide +kernel
theorem dX7_partOf_22 : decode cX7_partOf 22 = .ok (.iload_n 3, 1) := by decide +kernel
theorem dX7_partOf_23 : decode cX7_partOf 23 = .ok (.iload 4, 2) := by decide +kernel
theorem dX7_partOf_25 : decode cX7_partOf 25 = .ok (.invokevirtual 66, 3) := by decide +kernel
theorem dX7_partOf_28 : decode cX7_partOf 28 = .ok (.lload 5, 2) := by decide +kernel
theorem dX7_partOf_30 : decode cX7_partOf 30 = .ok (.invokestatic 69, 3) := by decide +kernel
theorem dX7_partOf_33 : decode cX7_partOf 33 = .ok (.ldc2_w 58, 3) := by decide +kernel
theorem dX7_partOf_36 : decode cX7_partOf 36 = .ok (.lsub, 1) := by decide +kernel
theorem dX7_partOf_37 : decode cX7_partOf 37 = .ok (.lstore 7, 2) := by decide +kernel
theorem dX7_partOf_39 : decode cX7_partOf 39 = .ok (.iconst 0, 1) := by decide +kernel
theorem dX7_partOf_40 : decode cX7_partOf 40 = .ok (.istore 9, 2) := by decide +kernel
theorem dX7_partOf_42 : decode cX7_partOf 42 = .ok (.iload 9, 2) := by decide +kernel
theorem dX7_partOf_44 : decode cX7_partOf 44 = .ok (.iconst 4, 1) := by decide +kernel
theorem dX7_partOf_45 : decode cX7_partOf 45 = .ok (.if_icmp .ge 56, 3) := by decide +kernel
theorem dX7_partOf_48 : decode cX7_partOf 48 = .ok (.aload_n 0, 1) := by decide +kernel
theorem dX7_partOf_49 : decode cX7_partOf 49 = .ok (.iload 9, 2) := by decide +kernel
theorem dX7_partOf_51 : decode cX7_partOf 51 = .ok (.iload_n 2, 1) := by decide +kernel
theorem dX7_partOf_52 : decode cX7_partOf 52 = .ok (.iload_n 3, 1) := by decide +kernel
theorem dX7_partOf_53 : decode cX7_partOf 53 = .ok (.iload 4, 2) := by decide +kernel
theorem dX7_partOf_55 : decode cX7_partOf 55 = .ok (.invokevirtual 66, 3) := by decide +kernel
theorem dX7_partOf_58 : decode cX7_partOf 58 = .ok (.aload_n 0, 1) := by decide +kernel
theorem dX7_partOf_59 : decode cX7_partOf 59 = .ok (.iload 9, 2) := by decide +kernel
theorem dX7_partOf_61 : decode cX7_partOf 61 = .ok (.iload_n 2, 1) := by decide +kernel
theorem dX7_partOf_62 : decode cX7_partOf 62 = .ok (.iload_n 3, 1) := by decide +kernel
theorem dX7_partOf_63 : decode cX7_partOf 63 = .ok (.iconst 1, 1) := by decide +kernel
theorem dX7_partOf_64 : decode cX7_partOf 64 = .ok (.isub, 1) := by decide +kernel
theorem dX7_partOf_65 : decode cX7_partOf 65 = .ok (.iload 4, 2) := by decide +kernel
theorem dX7_partOf_67 : decode cX7_partOf 67 = .ok (.invokevirtual 66, 3) := by decide +kernel
theorem dX7_partOf_70 : decode cX7_partOf 70 = .ok (.lsub, 1) := by decide +kernel
theorem dX7_partOf_71 : decode cX7_partOf 71 = .ok (.lstore 10, 2) := by decide +kernel
theorem dX7_partOf_73 : decode cX7_partOf 73 = .ok (.lload 7, 2) := by decide +kernel
theorem dX7_partOf_75 : decode cX7_partOf 75 = .ok (.aload_n 0, 1) := by decide +kernel
theorem dX7_partOf_76 : decode cX7_partOf 76 = .ok (.getfield 18, 3) := by decide +kernel
theorem dX7_partOf_79 : decode cX7_partOf 79 = .ok (.iload 9, 2) := by decide +kernel
theorem dX7_partOf_81 : decode cX7_partOf 81 = .ok (.lload 10, 2) := by decide +kernel
theorem dX7_partOf_83 : decode cX7_partOf 83 = .ok (.ldc2_w 58, 3) := by decide +kernel
theorem dX7_partOf_86 : decode cX7_partOf 86 = .ok (.lmul, 1) := by decide +kernel
theorem dX7_partOf_87 : decode cX7_partOf 87 = .ok (.lload 5, 2) := by decide +kernel
theorem dX7_partOf_89 : decode cX7_partOf 89 = .ok (.invokevirtual 87, 3) := by decide +kernel
theorem dX7_partOf_92 : decode cX7_partOf 92 = .ok (.lsub, 1) := by decide +kernel
theorem dX7_partOf_93 : decode cX7_partOf 93 = .ok (.lstore 7, 2) := by decide +kernel
theorem dX7_partOf_95 : decode cX7_partOf 95 = .ok (.iinc 9 1, 3) := by decide +kernel
theorem dX7_partOf_98 : decode cX7_partOf 98 = .ok (.goto (-56), 3) := by decide +kernel
theorem dX7_partOf_101 : decode cX7_partOf 101 = .ok (.aload_n 0, 1) := by decide +kernel
theorem dX7_partOf_102 : decode cX7_partOf 102 = .ok (.getfield 18, 3) := by decide +kernel
theorem dX7_partOf_105 : decode cX7_partOf 105 = .ok (.lload 7, 2) := by decide +kernel
theorem dX7_partOf_107 : decode cX7_partOf 107 = .ok (.iconst 4, 1) := by decide +kernel
theorem dX7_partOf_108 : decode cX7_partOf 108 = .ok (.invokevirtual 91, 3) := by decide +kernel
theorem dX7_partOf_111 : decode cX7_partOf 111 = .ok (.aload_n 0, 1) := by decide +kernel
theorem dX7_partOf_112 : decode cX7_partOf 112 = .ok (.getfield 18, 3) := by decide +kernel
theorem dX7_partOf_115 : decode cX7_partOf 115 = .ok (.getfield 95, 3) := by decide +kernel
theorem dX7_partOf_118 : decode cX7_partOf 118 = .ok (.iload_n 1, 1) := by decide +kernel
theorem dX7_partOf_119 : decode cX7_partOf 119 = .ok (.laload, 1) := by decide +kernel
theorem dX7_partOf_120 : decode cX7_partOf 120 = .ok (.lreturn, 1) := by decide +kernel
theorem dX7_apartOf_0 : decode cX7_apartOf 0 = .ok (.lconst 0, 1) := by decide +kernel
theorem dX7_apartOf_1 : decode cX7_apartOf 1 = .ok (.lstore_n 3, 1) := by decide +kernel
theorem dX7_apartOf_2 : decode cX7_apartOf 2 = .ok (.iconst 0, 1) := by decide +kernel
theorem dX7_apartOf_3 : decode cX7_apartOf 3 = .ok (.istore 5, 2) := by decide +kernel
theorem dX7_apartOf_5 : decode cX7_apartOf 5 = .ok (.iload 5, 2) := by decide +kernel
theorem dX7_apartOf_7 : decode cX7_apartOf 7 = .ok (.iconst 4, 1) := by decide +kernel
theorem dX7_apartOf_8 : decode cX7_apartOf 8 = .ok (.if_icmp .ge 32, 3) := by decide +kernel
theorem dX7_apartOf_11 : decode cX7_apartOf 11 = .ok (.lload_n 3, 1) := by decide +kernel
theorem dX7_apartOf_12 : decode cX7_apartOf 12 = .ok (.aload_n 0, 1) := by decide +kernel
theorem dX7_apartOf_13 : decode cX7_apartOf 13 = .ok (.iload 5, 2) := by decide +kernel
theorem dX7_apartOf_15 : decode cX7_apartOf 15 = .ok (.iload_n 1, 1) := by decide +kernel
theorem dX7_apartOf_16 : decode cX7_apartOf 16 = .ok (.iconst 0, 1) := by decide +kernel
theorem dX7_apartOf_17 : decode cX7_apartOf 17 = .ok (.iconst 0, 1) := by decide +kernel
theorem dX7_apartOf_18 : decode cX7_apartOf 18 = .ok (.invokevirtual 66, 3) := by decide +kernel
theorem dX7_apartOf_21 : decode cX7_apartOf 21 = .ok (.aload_n 0, 1) := by decide +kernel
theorem dX7_apartOf_22 : decode cX7_apartOf 22 = .ok (.iload 5, 2) := by decide +kernel
theorem dX7_apartOf_24 : decode cX7_apartOf 24 = .ok (.iload_n 1, 1) := by decide +kernel
theorem dX7_apartOf_25 : decode cX7_apartOf 25 = .ok (.iload_n 2, 1) := by decide +kernel
theorem dX7_apartOf_26 : decode cX7_apartOf 26 = .ok (.invokevirtual 99, 3) := by decide +kernel
theorem dX7_apartOf_29 : decode cX7_apartOf 29 = .ok (.invokestatic 77, 3) := by decide +kernel
theorem dX7_apartOf_32 : decode cX7_apartOf 32 = .ok (.ladd, 1) := by decide +kernel
theorem dX7_apartOf_33 : decode cX7_apartOf 33 = .ok (.lstore_n 3, 1) := by decide +kernel
theorem dX7_apartOf_34 : decode cX7_apartOf 34 = .ok (.iinc 5 1, 3) := by decide +kernel
theorem dX7_apartOf_37 : decode cX7_apartOf 37 = .ok (.goto (-32), 3) := by decide +kernel
theorem dX7_apartOf_40 : decode cX7_apartOf 40 = .ok (.lload_n 3, 1) := by decide +kernel
theorem dX7_apartOf_41 : decode cX7_apartOf 41 = .ok (.aload_n 0, 1) := by decide +kernel
theorem dX7_apartOf_42 : decode cX7_apartOf 42 = .ok (.iconst (-1), 1) := by decide +kernel
theorem dX7_apartOf_43 : decode cX7_apartOf 43 = .ok (.iload_n 1, 1) := by decide +kernel
theorem dX7_apartOf_44 : decode cX7_apartOf 44 = .ok (.iconst 0, 1) := by decide +kernel
theorem dX7_apartOf_45 : decode cX7_apartOf 45 = .ok (.iconst 0, 1) := by decide +kernel
theorem dX7_apartOf_46 : decode cX7_apartOf 46 = .ok (.invokevirtual 66, 3) := by decide +kernel
theorem dX7_apartOf_49 : decode cX7_apartOf 49 = .ok (.aload_n 0, 1) := by decide +kernel
theorem dX7_apartOf_50 : decode cX7_apartOf 50 = .ok (.iconst (-1), 1) := by decide +kernel
theorem dX7_apartOf_51 : decode cX7_apartOf 51 = .ok (.iload_n 1, 1) := by decide +kernel
theorem dX7_apartOf_52 : decode cX7_apartOf 52 = .ok (.iload_n 2, 1) := by decide +kernel
theorem dX7_apartOf_53 : decode cX7_apartOf 53 = .ok (.invokevirtual 99, 3) := by decide +kernel
theorem dX7_apartOf_56 : decode cX7_apartOf 56 = .ok (.invokestatic 77, 3) := by decide +kernel
theorem dX7_apartOf_59 : decode cX7_apartOf 59 = .ok (.lsub, 1) := by decide +kernel
theorem dX7_apartOf_60 : decode cX7_apartOf 60 = .ok (.lreturn, 1) := by decide +kernel
theorem dX7_chained_0 : decode cX7_chained 0 = .ok (.lload_n 0, 1) := by decide +kernel
theorem dX7_chained_1 : decode cX7_chained 1 = .ok (.lload_n 2, 1) := by decide +kernel
theorem dX7_chained_2 : decode cX7_chained 2 = .ok (.lmul, 1) := by decide +kernel
theorem dX7_chained_3 : decode cX7_chained 3 = .ok (.ldc2_w 58, 3) := by decide +kernel
theorem dX7_chained_6 : decode cX7_chained 6 = .ok (.invokestatic 40, 3) := by decide +kernel
theorem dX7_chained_9 : decode cX7_chained 9 = .ok (.lreturn, 1) := by decide +kernel
theorem dX8_init_0 : decode cX8_init 0 = .ok (.aload_n 0, 1) := by decide +kernel
theorem dX8_init_1 : decode cX8_init 1 = .ok (.invokespecial 3, 3) := by decide +kernel
theorem dX8_init_4 : decode cX8_init 4 = .ok (.aload_n 0, 1) := by decide +kernel
theorem dX8_init_5 : decode cX8_init 5 = .ok (.new 9, 3) := by decide +kernel
theorem dX8_init_8 : decode cX8_init 8 = .ok (.dup, 1) := by decide +kernel
theorem dX8_init_9 : decode cX8_init 9 = .ok (.invokespecial 11, 3) := by decide +kernel
theorem dX8_init_12 : decode cX8_init 12 = .ok (.putfield 12, 3) := by decide +kernel
theorem dX8_init_15 : decode cX8_init 15 = .ok (.aload_n 0, 1) := by decide +kernel
theorem dX8_init_16 : decode cX8_init 16 = .ok (.new 16, 3) := by decide +kernel
theorem dX8_init_19 : decode cX8_init 19 = .ok (.dup, 1) := by decide +kernel
theorem dX8_init_20 : decode cX8_init 20 = .ok (.aload_n 0, 1) := by decide +kernel
theorem dX8_init_21 : decode cX8_init 21 = .ok (.getfield 12, 3) := by decide +kernel
theorem dX8_init_24 : decode cX8_init 24 = .ok (.invokespecial 18, 3) := by decide +kernel
theorem dX8_init_27 : decode cX8_init 27 = .ok (.putfield 21, 3) := by decide +kernel
theorem dX8_init_30 : decode cX8_init 30 = .ok (.aload_n 0, 1) := by decide +kernel
theorem dX8_init_31 : decode cX8_init 31 = .ok (.new 25, 3) := by decide +kernel
theorem dX8_init_34 : decode cX8_init 34 = .ok (.dup, 1) := by decide +kernel
theorem dX8_init_35 : decode cX8_init 35 = .ok (.aload_n 0, 1) := by decide +kernel
theorem dX8_init_36 : decode cX8_init 36 = .ok (.getfield 21, 3) := by decide +kernel
theorem dX8_init_39 : decode cX8_init 39 = .ok (.invokespecial 27, 3) := by decide +kernel
theorem dX8_init_42 : decode cX8_init 42 = .ok (.putfield 30, 3) := by decide +kernel
theorem dX8_init_45 : decode cX8_init 45 = .ok (.aload_n 0, 1) := by decide +kernel
theorem dX8_init_46 : decode cX8_init 46 = .ok (.new 34, 3) := by decide +kernel
theorem dX8_init_49 : decode cX8_init 49 = .ok (.dup, 1) := by decide +kernel
theorem dX8_init_50 : decode cX8_init 50 = .ok (.invokespecial 36, 3) := by decide +kernel
theorem dX8_init_53 : decode cX8_init 53 = .ok (.putfield 37, 3) := by decide +kernel
theorem dX8_init_56 : decode cX8_init 56 = .ok (.aload_n 0, 1) := by decide +kernel
theorem dX8_init_57 : decode cX8_init 57 = .ok (.new 41, 3) := by decide +kernel
theorem dX8_init_60 : decode cX8_init 60 = .ok (.dup, 1) := by decide +kernel
theorem dX8_init_61 : decode cX8_init 61 = .ok (.invokespecial 43, 3) := by decide +kernel
theorem dX8_init_64 : decode cX8_init 64 = .ok (.putfield 44, 3) := by decide +kernel
theorem dX8_init_67 : decode cX8_init 67 = .ok (.aload_n 0, 1) := by decide +kernel
theorem dX8_init_68 : decode cX8_init 68 = .ok (.iconst 4, 1) := by decide +kernel
theorem dX8_init_69 : decode cX8_init 69 = .ok (.anewarray 48, 3) := by decide +kernel
theorem dX8_init_72 : decode cX8_init 72 = .ok (.putfield 50, 3) := by decide +kernel
theorem dX8_init_75 : decode cX8_init 75 = .ok (.aload_n 0, 1) := by decide +kernel
theorem dX8_init_76 : decode cX8_init 76 = .ok (.iconst 4, 1) := by decide +kernel
theorem dX8_init_77 : decode cX8_init 77 = .ok (.anewarray 54, 3) := by decide +kernel
theorem dX8_init_80 : decode cX8_init 80 = .ok (.putfield 56, 3) := by decide +kernel
theorem dX8_init_83 : decode cX8_init 83 = .ok (.aload_n 0, 1) := by decide +kernel
theorem dX8_init_84 : decode cX8_init 84 = .ok (.iconst 0, 1) := by decide +kernel
theorem dX8_init_85 : decode cX8_init 85 = .ok (.putfield 60, 3) := by decide +kernel
theorem dX8_init_88 : decode cX8_init 88 = .ok (.iconst 0, 1) := by decide +kernel
theorem dX8_init_89 : decode cX8_init 89 = .ok (.istore_n 1, 1) := by decide +kernel
theorem dX8_init_90 : decode cX8_init 90 = .ok (.iload_n 1, 1) := by decide +kernel
theorem dX8_init_91 : decode cX8_init 91 = .ok (.iconst 4, 1) := by decide +kernel
theorem dX8_init_92 : decode cX8_init 92 = .ok (.if_icmp .ge 22, 3) := by decide +kernel
theorem dX8_init_95 : decode cX8_init 95 = .ok (.aload_n 0, 1) := by decide +kernel
theorem dX8_init_96 : decode cX8_init 96 = .ok (.getfield 50, 3) := by decide +kernel
theorem dX8_init_99 : decode cX8_init 99 = .ok (.iload_n 1, 1) := by decide +kernel
theorem dX8_init_100 : decode cX8_init 100 = .ok (.new 48, 3) := by decide +kernel
theorem dX8_init_103 : decode cX8_init 103 = .ok (.dup, 1) := by decide +kernel
theorem dX8_init_104 : decode cX8_init 104 = .ok (.invokespecial 64, 3) := by decide +kernel
theorem dX8_init_107 : decode cX8_init 107 = .ok (.aastore, 1) := by decide +kernel
theorem dX8_init_108 : decode cX8_init 108 = .ok (.iinc 1 1, 3) := by decide +kernel
theorem dX8_init_111 : decode cX8_init 111 = .ok (.goto (-21), 3) := by decide +kernel
theorem dX8_init_114 : decode cX8_init 114 = .ok (.iconst 0, 1) := by decide +kernel
theorem dX8_init_115 : decode cX8_init 115 = .ok (.istore_n 1, 1) := by decide +kernel
theorem dX8_init_116 : decode cX8_init 116 = .ok (.iload_n 1, 1) := by decide +kernel
theorem dX8_init_117 : decode cX8_init 117 = .ok (.iconst 4, 1) := by decide +kernel
theorem dX8_init_118 : decode cX8_init 118 = .ok (.if_icmp .ge 22, 3) := by decide +kernel
theorem dX8_init_121 : decode cX8_init 121 = .ok (.aload_n 0, 1) := by decide +kernel
theorem dX8_init_122 : decode cX8_init 122 = .ok (.getfield 56, 3) := by decide +kernel
theorem dX8_init_125 : decode cX8_init 125 = .ok (.iload_n 1, 1) := by decide +kernel
theorem dX8_init_126 : decode cX8_init 126 = .ok (.new 54, 3) := by decide +kernel
theorem dX8_init_129 : decode cX8_init 129 = .ok (.dup, 1) := by decide +kernel
theorem dX8_init_130 : decode cX8_init 130 = .ok (.invokespecial 65, 3) := by decide +kernel
theorem dX8_init_133 : decode cX8_init 133 = .ok (.aastore, 1) := by decide +kernel
theorem dX8_init_134 : decode cX8_init 134 = .ok (.iinc 1 1, 3) := by decide +kernel
theorem dX8_init_137 : decode cX8_init 137 = .ok (.goto (-21), 3) := by decide +kernel
theorem dX8_init_140 : decode cX8_init 140 = .ok (.return_, 1) := by decide +kernel
theorem dX8_trust_0 : decode cX8_trust 0 = .ok (.iload_n 1, 1) := by decide +kernel
theorem dX8_trust_1 : decode cX8_trust 1 = .ok (.bipush 10, 2) := by decide +kernel
theorem dX8_trust_3 : decode cX8_trust 3 = .ok (.invokestatic 66, 3) := by decide +kernel
theorem dX8_trust_6 : decode cX8_trust 6 = .ok (.ifCond .eq 10, 3) := by decide +kernel
theorem dX8_trust_9 : decode cX8_trust 9 = .ok (.iload_n 2, 1) := by decide +kernel
theorem dX8_trust_10 : decode cX8_trust 10 = .ok (.invokestatic 70, 3) := by decide +kernel
theorem dX8_trust_13 : decode cX8_trust 13 = .ok (.ifCond .ne 6, 3) := by decide +kernel
theorem dX8_trust_16 : decode cX8_trust 16 = .ok (.bipush (-2), 2) := by decide +kernel
theorem dX8_trust_18 : decode cX8_trust 18 = .ok (.ireturn, 1) := by decide +kernel
theorem dX8_trust_19 : decode cX8_trust 19 = .ok (.aload_n 0, 1) := by decide +kernel
theorem dX8_trust_20 : decode cX8_trust 20 = .ok (.getfield 12, 3) := by decide +kernel
theorem dX8_trust_23 : decode cX8_trust 23 = .ok (.getfield 74, 3) := by decide +kernel
theorem dX8_trust_26 : decode cX8_trust 26 = .ok (.iload_n 1, 1) := by decide +kernel
theorem dX8_trust_27 : decode cX8_trust 27 = .ok (.iaload, 1) := by decide +kernel
theorem dX8_trust_28 : decode cX8_trust 28 = .ok (.istore_n 3, 1) := by decide +kernel
theorem dX8_trust_29 : decode cX8_trust 29 = .ok (.aload_n 0, 1) := by decide +kernel
theorem dX8_trust_30 : decode cX8_trust 30 = .ok (.getfield 12, 3) := by decide +kernel
theorem dX8_trust_33 : decode cX8_trust 33 = .ok (.getfield 74, 3) := by decide +kernel
theorem dX8_trust_36 : decode cX8_trust 36 = .ok (.iload_n 1, 1) := by decide +kernel
theorem dX8_trust_37 : decode cX8_trust 37 = .ok (.iload_n 2, 1) := by decide +kernel
theorem dX8_trust_38 : decode cX8_trust 38 = .ok (.iastore, 1) := by decide +kernel
theorem dX8_trust_39 : decode cX8_trust 39 = .ok (.aload_n 0, 1) := by decide +kernel
theorem dX8_trust_40 : decode cX8_trust 40 = .ok (.getfield 21, 3) := by decide +kernel
theorem dX8_trust_43 : decode cX8_trust 43 = .ok (.invokevirtual 78, 3) := by decide +kernel
theorem dX8_trust_46 : decode cX8_trust 46 = .ok (.iload_n 3, 1) := by decide +kernel
theorem dX8_trust_47 : decode cX8_trust 47 = .ok (.ireturn, 1) := by decide +kernel
theorem dX8_code_0 : decode cX8_code 0 = .ok (.iload_n 1, 1) := by decide +kernel
theorem dX8_code_1 : decode cX8_code 1 = .ok (.iload_n 2, 1) := by decide +kernel
theorem dX8_code_2 : decode cX8_code 2 = .ok (.iload_n 3, 1) := by decide +kernel
theorem dX8_code_3 : decode cX8_code 3 = .ok (.invokestatic 81, 3) := by decide +kernel
theorem dX8_code_6 : decode cX8_code 6 = .ok (.ifCond .eq 13, 3) := by decide +kernel
theorem dX8_code_9 : decode cX8_code 9 = .ok (.iload 4, 2) := by decide +kernel
theorem dX8_code_11 : decode cX8_code 11 = .ok (.bipush 12, 2) := by decide +kernel
theorem dX8_code_13 : decode cX8_code 13 = .ok (.invokestatic 66, 3) := by decide +kernel
theorem dX8_code_16 : decode cX8_code 16 = .ok (.ifCond .ne 6, 3) := by decide +kernel
theorem dX8_code_19 : decode cX8_code 19 = .ok (.bipush (-2), 2) := by decide +kernel
theorem dX8_code_21 : decode cX8_code 21 = .ok (.ireturn, 1) := by decide +kernel
theorem dX8_code_22 : decode cX8_code 22 = .ok (.iload_n 1, 1) := by decide +kernel
theorem dX8_code_23 : decode cX8_code 23 = .ok (.iload_n 2, 1) := by decide +kernel
theorem dX8_code_24 : decode cX8_code 24 = .ok (.iload_n 3, 1) := by decide +kernel
theorem dX8_code_25 : decode cX8_code 25 = .ok (.iload 4, 2) := by decide +kernel
theorem dX8_code_27 : decode cX8_code 27 = .ok (.invokestatic 85, 3) := by decide +kernel
theorem dX8_code_30 : decode cX8_code 30 = .ok (.ireturn, 1) := by decide +kernel
theorem dX8_annual_0 : decode cX8_annual 0 = .ok (.iload_n 1, 1) := by decide +kernel
theorem dX8_annual_1 : decode cX8_annual 1 = .ok (.iload_n 2, 1) := by decide +kernel
theorem dX8_annual_2 : decode cX8_annual 2 = .ok (.iload_n 3, 1) := by decide +kernel
theorem dX8_annual_3 : decode cX8_annual 3 = .ok (.invokestatic 81, 3) := by decide +kernel
theorem dX8_annual_6 : decode cX8_annual 6 = .ok (.ifCond .eq 12, 3) := by decide +kernel
theorem dX8_annual_9 : decode cX8_annual 9 = .ok (.iload 4, 2) := by decide +kernel
theorem dX8_annual_11 : decode cX8_annual 11 = .ok (.iconst 3, 1) := by decide +kernel
theorem dX8_annual_12 : decode cX8_annual 12 = .ok (.invokestatic 66, 3) := by decide +kernel
theorem dX8_annual_15 : decode cX8_annual 15 = .ok (.ifCond .ne 6, 3) := by decide +kernel
theorem dX8_annual_18 : decode cX8_annual 18 = .ok (.bipush (-2), 2) := by decide +kernel
theorem dX8_annual_20 : decode cX8_annual 20 = .ok (.ireturn, 1) := by decide +kernel
theorem dX8_annual_21 : decode cX8_annual 21 = .ok (.iload_n 1, 1) := by decide +kernel
theorem dX8_annual_22 : decode cX8_annual 22 = .ok (.iload_n 2, 1) := by decide +kernel
theorem dX8_annual_23 : decode cX8_annual 23 = .ok (.iload_n 3, 1) := by decide +kernel
theorem dX8_annual_24 : decode cX8_annual 24 = .ok (.iload 4, 2) := by decide +kernel
theorem dX8_annual_26 : decode cX8_annual 26 = .ok (.invokestatic 89, 3) := by decide +kernel
theorem dX8_annual_29 : decode cX8_annual 29 = .ok (.ireturn, 1) := by decide +kernel
theorem dX8_decode_0 : decode cX8_decode 0 = .ok (.iload_n 1, 1) := by decide +kernel
theorem dX8_decode_1 : decode cX8_decode 1 = .ok (.sipush 720, 3) := by decide +kernel
theorem dX8_decode_4 : decode cX8_decode 4 = .ok (.invokestatic 66, 3) := by decide +kernel
theorem dX8_decode_7 : decode cX8_decode 7 = .ok (.ifCond .ne 6, 3) := by decide +kernel
theorem dX8_decode_10 : decode cX8_decode 10 = .ok (.bipush (-2), 2) := by decide +kernel
theorem dX8_decode_12 : decode cX8_decode 12 = .ok (.ireturn, 1) := by decide +kernel
theorem dX8_decode_13 : decode cX8_decode 13 = .ok (.iload_n 2, 1) := by decide +kernel
theorem dX8_decode_14 : decode cX8_decode 14 = .ok (.tableswitch 67 0 4 #[34, 39, 44, 49, 54], 34) := by decide +kernel
theorem dX8_decode_48 : decode cX8_decode 48 = .ok (.iload_n 1, 1) := by decide +kernel
theorem dX8_decode_49 : decode cX8_decode 49 = .ok (.invokestatic 92, 3) := by decide +kernel
theorem dX8_decode_52 : decode cX8_decode 52 = .ok (.ireturn, 1) := by decide +kernel
theorem dX8_decode_53 : decode cX8_decode 53 = .ok (.iload_n 1, 1) := by decide +kernel
theorem dX8_decode_54 : decode cX8_decode 54 = .ok (.invokestatic 96, 3) := by decide +kernel
theorem dX8_decode_57 : decode cX8_decode 57 = .ok (.ireturn, 1) := by decide +kernel
theorem dX8_decode_58 : decode cX8_decode 58 = .ok (.iload_n 1, 1) := by decide +kernel
theorem dX8_decode_59 : decode cX8_decode 59 = .ok (.invokestatic 99, 3) := by decide +kernel
theorem dX8_decode_62 : decode cX8_decode 62 = .ok (.ireturn, 1) := by decide +kernel
theorem dX8_decode_63 : decode cX8_decode 63 = .ok (.iload_n 1, 1) := by decide +kernel
theorem dX8_decode_64 : decode cX8_decode 64 = .ok (.invokestatic 102, 3) := by decide +kernel
theorem dX8_decode_67 : decode cX8_decode 67 = .ok (.ireturn, 1) := by decide +kernel
theorem dX8_decode_68 : decode cX8_decode 68 = .ok (.iload_n 1, 1) := by decide +kernel
theorem dX8_decode_69 : decode cX8_decode 69 = .ok (.invokestatic 105, 3) := by decide +kernel
theorem dX8_decode_72 : decode cX8_decode 72 = .ok (.ifCond .eq 7, 3) := by decide +kernel
theorem dX8_decode_75 : decode cX8_decode 75 = .ok (.iconst 1, 1) := by decide +kernel
theorem dX8_decode_76 : decode cX8_decode 76 = .ok (.goto 4, 3) := by decide +kernel
theorem dX8_decode_79 : decode cX8_decode 79 = .ok (.iconst 0, 1) := by decide +kernel
theorem dX8_decode_80 : decode cX8_decode 80 = .ok (.ireturn, 1) := by decide +kernel
theorem dX8_decode_81 : decode cX8_decode 81 = .ok (.bipush (-2), 2) := by decide +kernel
theorem dX8_decode_83 : decode cX8_decode 83 = .ok (.ireturn, 1) := by decide +kernel
theorem dX8_row_0 : decode cX8_row 0 = .ok (.iload_n 1, 1) := by decide +kernel
theorem dX8_row_1 : decode cX8_row 1 = .ok (.bipush 10, 2) := by decide +kernel
theorem dX8_row_3 : decode cX8_row 3 = .ok (.invokestatic 66, 3) := by decide +kernel
theorem dX8_row_6 : decode cX8_row 6 = .ok (.ifCond .eq 33, 3) := by decide +kernel
theorem dX8_row_9 : decode cX8_row 9 = .ok (.iload_n 2, 1) := by decide +kernel
theorem dX8_row_10 : decode cX8_row 10 = .ok (.sipush 720, 3) := by decide +kernel
theorem dX8_row_13 : decode cX8_row 13 = .ok (.invokestatic 66, 3) := by decide +kernel
theorem dX8_row_16 : decode cX8_row 16 = .ok (.ifCond .eq 23, 3) := by decide +kernel
theorem dX8_row_19 : decode cX8_row 19 = .ok (.iload_n 3, 1) := by decide +kernel
theorem dX8_row_20 : decode cX8_row 20 = .ok (.iconst 0, 1) := by decide +kernel
theorem dX8_row_21 : decode cX8_row 21 = .ok (.ldc 108, 2) := by decide +kernel
theorem dX8_row_23 : decode cX8_row 23 = .ok (.invokestatic 109, 3) := by decide +kernel
theorem dX8_row_26 : decode cX8_row 26 = .ok (.ifCond .eq 13, 3) := by decide +kernel
theorem dX8_row_29 : decode cX8_row 29 = .ok (.iload 4, 2) := by decide +kernel
theorem dX8_row_31 : decode cX8_row 31 = .ok (.bipush 10, 2) := by decide +kernel
theorem dX8_row_33 : decode cX8_row 33 = .ok (.invokestatic 66, 3) := by decide +kernel
theorem dX8_row_36 : decode cX8_row 36 = .ok (.ifCond .ne 6, 3) := by decide +kernel
theorem dX8_row_39 : decode cX8_row 39 = .ok (.bipush (-2), 2) := by decide +kernel
theorem dX8_row_41 : decode cX8_row 41 = .ok (.ireturn, 1) := by decide +kernel
theorem dX8_row_42 : decode cX8_row 42 = .ok (.aload_n 0, 1) := by decide +kernel
theorem dX8_row_43 : decode cX8_row 43 = .ok (.getfield 12, 3) := by decide +kernel
theorem dX8_row_46 : decode cX8_row 46 = .ok (.getfield 112, 3) := by decide +kernel
theorem dX8_row_49 : decode cX8_row 49 = .ok (.bipush 80, 2) := by decide +kernel
theorem dX8_row_51 : decode cX8_row 51 = .ok (.if_icmp .lt 6, 3) := by decide +kernel
theorem dX8_row_54 : decode cX8_row 54 = .ok (.bipush (-4), 2) := by decide +kernel
theorem dX8_row_56 : decode cX8_row 56 = .ok (.ireturn, 1) := by decide +kernel
theorem dX8_row_57 : decode cX8_row 57 = .ok (.aload_n 0, 1) := by decide +kernel
theorem dX8_row_58 : decode cX8_row 58 = .ok (.getfield 21, 3) := by decide +kernel
theorem dX8_row_61 : decode cX8_row 61 = .ok (.iload_n 2, 1) := by decide +kernel
theorem dX8_row_62 : decode cX8_row 62 = .ok (.invokestatic 92, 3) := by decide +kernel
theorem dX8_row_65 : decode cX8_row 65 = .ok (.iload_n 2, 1) := by decide +kernel
theorem dX8_row_66 : decode cX8_row 66 = .ok (.invokestatic 96, 3) := by decide +kernel
theorem dX8_row_69 : decode cX8_row 69 = .ok (.iload_n 2, 1) := by decide +kernel
theorem dX8_row_70 : decode cX8_row 70 = .ok (.invokestatic 115, 3) := by decide +kernel
theorem dX8_row_73 : decode cX8_row 73 = .ok (.invokevirtual 118, 3) := by decide +kernel
theorem dX8_row_76 : decode cX8_row 76 = .ok (.aload_n 0, 1) := by decide +kernel
theorem dX8_row_77 : decode cX8_row 77 = .ok (.getfield 12, 3) := by decide +kernel
theorem dX8_row_80 : decode cX8_row 80 = .ok (.iload_n 1, 1) := by decide +kernel
theorem dX8_row_81 : decode cX8_row 81 = .ok (.iload_n 2, 1) := by decide +kernel
theorem dX8_row_82 : decode cX8_row 82 = .ok (.iload_n 3, 1) := by decide +kernel
theorem dX8_row_83 : decode cX8_row 83 = .ok (.iload 4, 2) := by decide +kernel
theorem dX8_row_85 : decode cX8_row 85 = .ok (.invokevirtual 122, 3) := by decide +kernel
theorem dX8_row_88 : decode cX8_row 88 = .ok (.ireturn, 1) := by decide +kernel
theorem dX8_rowIs_0 : decode cX8_rowIs 0 = .ok (.iload_n 1, 1) := by decide +kernel
theorem dX8_rowIs_1 : decode cX8_rowIs 1 = .ok (.aload_n 0, 1) := by decide +kernel
theorem dX8_rowIs_2 : decode cX8_rowIs 2 = .ok (.getfield 12, 3) := by decide +kernel
theorem dX8_rowIs_5 : decode cX8_rowIs 5 = .ok (.getfield 112, 3) := by decide +kernel
theorem dX8_rowIs_8 : decode cX8_rowIs 8 = .ok (.invokestatic 66, 3) := by decide +kernel
theorem dX8_rowIs_11 : decode cX8_rowIs 11 = .ok (.ifCond .ne 6, 3) := by decide +kernel
theorem dX8_rowIs_14 : decode cX8_rowIs 14 = .ok (.ldc 125, 2) := by decide +kernel
theorem dX8_rowIs_16 : decode cX8_rowIs 16 = .ok (.ireturn, 1) := by decide +kernel
theorem dX8_rowIs_17 : decode cX8_rowIs 17 = .ok (.iload_n 2, 1) := by decide +kernel
theorem dX8_rowIs_18 : decode cX8_rowIs 18 = .ok (.tableswitch 91 0 4 #[34, 44, 54, 64, 74], 34) := by decide +kernel
theorem dX8_rowIs_52 : decode cX8_rowIs 52 = .ok (.aload_n 0, 1) := by decide +kernel
theorem dX8_rowIs_53 : decode cX8_rowIs 53 = .ok (.getfield 12, 3) := by decide +kernel
theorem dX8_rowIs_56 : decode cX8_rowIs 56 = .ok (.getfield 126, 3) := by decide +kernel
theorem dX8_rowIs_59 : decode cX8_rowIs 59 = .ok (.iload_n 1, 1) := by decide +kernel
theorem dX8_rowIs_60 : decode cX8_rowIs 60 = .ok (.iaload, 1) := by decide +kernel
theorem dX8_rowIs_61 : decode cX8_rowIs 61 = .ok (.ireturn, 1) := by decide +kernel
theorem dX8_rowIs_62 : decode cX8_rowIs 62 = .ok (.aload_n 0, 1) := by decide +kernel
theorem dX8_rowIs_63 : decode cX8_rowIs 63 = .ok (.getfield 12, 3) := by decide +kernel
theorem dX8_rowIs_66 : decode cX8_rowIs 66 = .ok (.getfield 129, 3) := by decide +kernel
theorem dX8_rowIs_69 : decode cX8_rowIs 69 = .ok (.iload_n 1, 1) := by decide +kernel
theorem dX8_rowIs_70 : decode cX8_rowIs 70 = .ok (.iaload, 1) := by decide +kernel
theorem dX8_rowIs_71 : decode cX8_rowIs 71 = .ok (.ireturn, 1) := by decide +kernel
theorem dX8_rowIs_72 : decode cX8_rowIs 72 = .ok (.aload_n 0, 1) := by decide +kernel
theorem dX8_rowIs_73 : decode cX8_rowIs 73 = .ok (.getfield 12, 3) := by decide +kernel
theorem dX8_rowIs_76 : decode cX8_rowIs 76 = .ok (.getfield 132, 3) := by decide +kernel
theorem dX8_rowIs_79 : decode cX8_rowIs 79 = .ok (.iload_n 1, 1) := by decide +kernel
theorem dX8_rowIs_80 : decode cX8_rowIs 80 = .ok (.iaload, 1) := by decide +kernel
theorem dX8_rowIs_81 : decode cX8_rowIs 81 = .ok (.ireturn, 1) := by decide +kernel
theorem dX8_rowIs_82 : decode cX8_rowIs 82 = .ok (.aload_n 0, 1) := by decide +kernel
theorem dX8_rowIs_83 : decode cX8_rowIs 83 = .ok (.getfield 12, 3) := by decide +kernel
theorem dX8_rowIs_86 : decode cX8_rowIs 86 = .ok (.getfield 135, 3) := by decide +kernel
theorem dX8_rowIs_89 : decode cX8_rowIs 89 = .ok (.iload_n 1, 1) := by decide +kernel
theorem dX8_rowIs_90 : decode cX8_rowIs 90 = .ok (.iaload, 1) := by decide +kernel
