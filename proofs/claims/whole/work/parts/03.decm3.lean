theorem dX9_read_57 : decode cX9_read 57 = .ok (.getfield 100, 3) := by decide +kernel
theorem dX9_read_60 : decode cX9_read 60 = .ok (.iload_n 3, 1) := by decide +kernel
theorem dX9_read_61 : decode cX9_read 61 = .ok (.iconst 1, 1) := by decide +kernel
theorem dX9_read_62 : decode cX9_read 62 = .ok (.iadd, 1) := by decide +kernel
theorem dX9_read_63 : decode cX9_read 63 = .ok (.iaload, 1) := by decide +kernel
theorem dX9_read_64 : decode cX9_read 64 = .ok (.aload_n 0, 1) := by decide +kernel
theorem dX9_read_65 : decode cX9_read 65 = .ok (.getfield 100, 3) := by decide +kernel
theorem dX9_read_68 : decode cX9_read 68 = .ok (.iload_n 3, 1) := by decide +kernel
theorem dX9_read_69 : decode cX9_read 69 = .ok (.iconst 2, 1) := by decide +kernel
theorem dX9_read_70 : decode cX9_read 70 = .ok (.iadd, 1) := by decide +kernel
theorem dX9_read_71 : decode cX9_read 71 = .ok (.iaload, 1) := by decide +kernel
theorem dX9_read_72 : decode cX9_read 72 = .ok (.aload_n 0, 1) := by decide +kernel
theorem dX9_read_73 : decode cX9_read 73 = .ok (.getfield 100, 3) := by decide +kernel
theorem dX9_read_76 : decode cX9_read 76 = .ok (.iload_n 3, 1) := by decide +kernel
theorem dX9_read_77 : decode cX9_read 77 = .ok (.iconst 3, 1) := by decide +kernel
theorem dX9_read_78 : decode cX9_read 78 = .ok (.iadd, 1) := by decide +kernel
theorem dX9_read_79 : decode cX9_read 79 = .ok (.iaload, 1) := by decide +kernel
theorem dX9_read_80 : decode cX9_read 80 = .ok (.invokevirtual 164, 3) := by decide +kernel
theorem dX9_read_83 : decode cX9_read 83 = .ok (.ifCond .ge 5, 3) := by decide +kernel
theorem dX9_read_86 : decode cX9_read 86 = .ok (.iload_n 2, 1) := by decide +kernel
theorem dX9_read_87 : decode cX9_read 87 = .ok (.ireturn, 1) := by decide +kernel
theorem dX9_read_88 : decode cX9_read 88 = .ok (.iinc 2 1, 3) := by decide +kernel
theorem dX9_read_91 : decode cX9_read 91 = .ok (.iinc 3 4, 3) := by decide +kernel
theorem dX9_read_94 : decode cX9_read 94 = .ok (.goto (-62), 3) := by decide +kernel
theorem dX9_read_97 : decode cX9_read 97 = .ok (.iload_n 2, 1) := by decide +kernel
theorem dX9_read_98 : decode cX9_read 98 = .ok (.ireturn, 1) := by decide +kernel
theorem dX9_write_0 : decode cX9_write 0 = .ok (.iload_n 1, 1) := by decide +kernel
theorem dX9_write_1 : decode cX9_write 1 = .ok (.invokestatic 356, 3) := by decide +kernel
theorem dX9_write_4 : decode cX9_write 4 = .ok (.ifCond .eq 13, 3) := by decide +kernel
theorem dX9_write_7 : decode cX9_write 7 = .ok (.iload_n 2, 1) := by decide +kernel
theorem dX9_write_8 : decode cX9_write 8 = .ok (.iload_n 3, 1) := by decide +kernel
theorem dX9_write_9 : decode cX9_write 9 = .ok (.iload 4, 2) := by decide +kernel
theorem dX9_write_11 : decode cX9_write 11 = .ok (.invokestatic 118, 3) := by decide +kernel
theorem dX9_write_14 : decode cX9_write 14 = .ok (.ifCond .ne 6, 3) := by decide +kernel
theorem dX9_write_17 : decode cX9_write 17 = .ok (.bipush (-2), 2) := by decide +kernel
theorem dX9_write_19 : decode cX9_write 19 = .ok (.ireturn, 1) := by decide +kernel
theorem dX9_write_20 : decode cX9_write 20 = .ok (.aload_n 0, 1) := by decide +kernel
theorem dX9_write_21 : decode cX9_write 21 = .ok (.getfield 91, 3) := by decide +kernel
theorem dX9_write_24 : decode cX9_write 24 = .ok (.iload_n 1, 1) := by decide +kernel
theorem dX9_write_25 : decode cX9_write 25 = .ok (.baload, 1) := by decide +kernel
theorem dX9_write_26 : decode cX9_write 26 = .ok (.ifCond .ne 9, 3) := by decide +kernel
theorem dX9_write_29 : decode cX9_write 29 = .ok (.aload_n 0, 1) := by decide +kernel
theorem dX9_write_30 : decode cX9_write 30 = .ok (.iconst 1, 1) := by decide +kernel
theorem dX9_write_31 : decode cX9_write 31 = .ok (.invokevirtual 359, 3) := by decide +kernel
theorem dX9_write_34 : decode cX9_write 34 = .ok (.ireturn, 1) := by decide +kernel
theorem dX9_write_35 : decode cX9_write 35 = .ok (.aload_n 0, 1) := by decide +kernel
theorem dX9_write_36 : decode cX9_write 36 = .ok (.invokevirtual 186, 3) := by decide +kernel
theorem dX9_write_39 : decode cX9_write 39 = .ok (.iconst 0, 1) := by decide +kernel
theorem dX9_write_40 : decode cX9_write 40 = .ok (.istore 5, 2) := by decide +kernel
theorem dX9_write_42 : decode cX9_write 42 = .ok (.iload 5, 2) := by decide +kernel
theorem dX9_write_44 : decode cX9_write 44 = .ok (.bipush 12, 2) := by decide +kernel
theorem dX9_write_46 : decode cX9_write 46 = .ok (.if_icmp .ge 41, 3) := by decide +kernel
theorem dX9_write_49 : decode cX9_write 49 = .ok (.iload 5, 2) := by decide +kernel
theorem dX9_write_51 : decode cX9_write 51 = .ok (.aload_n 0, 1) := by decide +kernel
theorem dX9_write_52 : decode cX9_write 52 = .ok (.getfield 97, 3) := by decide +kernel
theorem dX9_write_55 : decode cX9_write 55 = .ok (.iload_n 1, 1) := by decide +kernel
theorem dX9_write_56 : decode cX9_write 56 = .ok (.iaload, 1) := by decide +kernel
theorem dX9_write_57 : decode cX9_write 57 = .ok (.if_icmp .ge 30, 3) := by decide +kernel
theorem dX9_write_60 : decode cX9_write 60 = .ok (.aload_n 0, 1) := by decide +kernel
theorem dX9_write_61 : decode cX9_write 61 = .ok (.iload_n 1, 1) := by decide +kernel
theorem dX9_write_62 : decode cX9_write 62 = .ok (.iload 5, 2) := by decide +kernel
theorem dX9_write_64 : decode cX9_write 64 = .ok (.aload_n 0, 1) := by decide +kernel
theorem dX9_write_65 : decode cX9_write 65 = .ok (.getfield 58, 3) := by decide +kernel
theorem dX9_write_68 : decode cX9_write 68 = .ok (.iload_n 2, 1) := by decide +kernel
theorem dX9_write_69 : decode cX9_write 69 = .ok (.iload_n 3, 1) := by decide +kernel
theorem dX9_write_70 : decode cX9_write 70 = .ok (.iload 4, 2) := by decide +kernel
theorem dX9_write_72 : decode cX9_write 72 = .ok (.iload 5, 2) := by decide +kernel
theorem dX9_write_74 : decode cX9_write 74 = .ok (.invokestatic 124, 3) := by decide +kernel
theorem dX9_write_77 : decode cX9_write 77 = .ok (.laload, 1) := by decide +kernel
theorem dX9_write_78 : decode cX9_write 78 = .ok (.invokevirtual 365, 3) := by decide +kernel
theorem dX9_write_81 : decode cX9_write 81 = .ok (.iinc 5 1, 3) := by decide +kernel
theorem dX9_write_84 : decode cX9_write 84 = .ok (.goto (-42), 3) := by decide +kernel
theorem dX9_write_87 : decode cX9_write 87 = .ok (.iload 5, 2) := by decide +kernel
theorem dX9_write_89 : decode cX9_write 89 = .ok (.ireturn, 1) := by decide +kernel
theorem dX9_count_0 : decode cX9_count 0 = .ok (.iconst 0, 1) := by decide +kernel
theorem dX9_count_1 : decode cX9_count 1 = .ok (.istore_n 2, 1) := by decide +kernel
theorem dX9_count_2 : decode cX9_count 2 = .ok (.aload_n 0, 1) := by decide +kernel
theorem dX9_count_3 : decode cX9_count 3 = .ok (.invokevirtual 186, 3) := by decide +kernel
theorem dX9_count_6 : decode cX9_count 6 = .ok (.iload_n 1, 1) := by decide +kernel
theorem dX9_count_7 : decode cX9_count 7 = .ok (.tableswitch 223 0 8 #[49, 54, 89, 94, 99, 124, 157, 190, 218], 49) := by decide +kernel
theorem dX9_count_56 : decode cX9_count 56 = .ok (.aload_n 0, 1) := by decide +kernel
theorem dX9_count_57 : decode cX9_count 57 = .ok (.getfield 161, 3) := by decide +kernel
theorem dX9_count_60 : decode cX9_count 60 = .ok (.ireturn, 1) := by decide +kernel
theorem dX9_count_61 : decode cX9_count 61 = .ok (.iconst 0, 1) := by decide +kernel
theorem dX9_count_62 : decode cX9_count 62 = .ok (.istore_n 3, 1) := by decide +kernel
theorem dX9_count_63 : decode cX9_count 63 = .ok (.iload_n 3, 1) := by decide +kernel
theorem dX9_count_64 : decode cX9_count 64 = .ok (.aload_n 0, 1) := by decide +kernel
theorem dX9_count_65 : decode cX9_count 65 = .ok (.getfield 161, 3) := by decide +kernel
theorem dX9_count_68 : decode cX9_count 68 = .ok (.if_icmp .ge 26, 3) := by decide +kernel
theorem dX9_count_71 : decode cX9_count 71 = .ok (.iload_n 2, 1) := by decide +kernel
theorem dX9_count_72 : decode cX9_count 72 = .ok (.aload_n 0, 1) := by decide +kernel
theorem dX9_count_73 : decode cX9_count 73 = .ok (.getfield 29, 3) := by decide +kernel
theorem dX9_count_76 : decode cX9_count 76 = .ok (.iload_n 3, 1) := by decide +kernel
theorem dX9_count_77 : decode cX9_count 77 = .ok (.baload, 1) := by decide +kernel
theorem dX9_count_78 : decode cX9_count 78 = .ok (.ifCond .eq 7, 3) := by decide +kernel
theorem dX9_count_81 : decode cX9_count 81 = .ok (.iconst 1, 1) := by decide +kernel
theorem dX9_count_82 : decode cX9_count 82 = .ok (.goto 4, 3) := by decide +kernel
theorem dX9_count_85 : decode cX9_count 85 = .ok (.iconst 0, 1) := by decide +kernel
theorem dX9_count_86 : decode cX9_count 86 = .ok (.iadd, 1) := by decide +kernel
theorem dX9_count_87 : decode cX9_count 87 = .ok (.istore_n 2, 1) := by decide +kernel
theorem dX9_count_88 : decode cX9_count 88 = .ok (.iinc 3 1, 3) := by decide +kernel
theorem dX9_count_91 : decode cX9_count 91 = .ok (.goto (-28), 3) := by decide +kernel
theorem dX9_count_94 : decode cX9_count 94 = .ok (.iload_n 2, 1) := by decide +kernel
theorem dX9_count_95 : decode cX9_count 95 = .ok (.ireturn, 1) := by decide +kernel
theorem dX9_count_96 : decode cX9_count 96 = .ok (.aload_n 0, 1) := by decide +kernel
theorem dX9_count_97 : decode cX9_count 97 = .ok (.getfield 25, 3) := by decide +kernel
theorem dX9_count_100 : decode cX9_count 100 = .ok (.ireturn, 1) := by decide +kernel
theorem dX9_count_101 : decode cX9_count 101 = .ok (.aload_n 0, 1) := by decide +kernel
theorem dX9_count_102 : decode cX9_count 102 = .ok (.getfield 209, 3) := by decide +kernel
theorem dX9_count_105 : decode cX9_count 105 = .ok (.ireturn, 1) := by decide +kernel
theorem dX9_count_106 : decode cX9_count 106 = .ok (.iconst 0, 1) := by decide +kernel
theorem dX9_count_107 : decode cX9_count 107 = .ok (.istore_n 3, 1) := by decide +kernel
theorem dX9_count_108 : decode cX9_count 108 = .ok (.iload_n 3, 1) := by decide +kernel
theorem dX9_count_109 : decode cX9_count 109 = .ok (.bipush 6, 2) := by decide +kernel
theorem dX9_count_111 : decode cX9_count 111 = .ok (.if_icmp .ge 18, 3) := by decide +kernel
theorem dX9_count_114 : decode cX9_count 114 = .ok (.iload_n 2, 1) := by decide +kernel
theorem dX9_count_115 : decode cX9_count 115 = .ok (.aload_n 0, 1) := by decide +kernel
theorem dX9_count_116 : decode cX9_count 116 = .ok (.getfield 40, 3) := by decide +kernel
theorem dX9_count_119 : decode cX9_count 119 = .ok (.iload_n 3, 1) := by decide +kernel
theorem dX9_count_120 : decode cX9_count 120 = .ok (.iaload, 1) := by decide +kernel
theorem dX9_count_121 : decode cX9_count 121 = .ok (.iadd, 1) := by decide +kernel
theorem dX9_count_122 : decode cX9_count 122 = .ok (.istore_n 2, 1) := by decide +kernel
theorem dX9_count_123 : decode cX9_count 123 = .ok (.iinc 3 1, 3) := by decide +kernel
theorem dX9_count_126 : decode cX9_count 126 = .ok (.goto (-18), 3) := by decide +kernel
theorem dX9_count_129 : decode cX9_count 129 = .ok (.iload_n 2, 1) := by decide +kernel
theorem dX9_count_130 : decode cX9_count 130 = .ok (.ireturn, 1) := by decide +kernel
theorem dX9_count_131 : decode cX9_count 131 = .ok (.iconst 0, 1) := by decide +kernel
theorem dX9_count_132 : decode cX9_count 132 = .ok (.istore_n 3, 1) := by decide +kernel
theorem dX9_count_133 : decode cX9_count 133 = .ok (.iload_n 3, 1) := by decide +kernel
theorem dX9_count_134 : decode cX9_count 134 = .ok (.bipush 48, 2) := by decide +kernel
theorem dX9_count_136 : decode cX9_count 136 = .ok (.if_icmp .ge 26, 3) := by decide +kernel
theorem dX9_count_139 : decode cX9_count 139 = .ok (.iload_n 2, 1) := by decide +kernel
theorem dX9_count_140 : decode cX9_count 140 = .ok (.aload_n 0, 1) := by decide +kernel
theorem dX9_count_141 : decode cX9_count 141 = .ok (.getfield 55, 3) := by decide +kernel
theorem dX9_count_144 : decode cX9_count 144 = .ok (.iload_n 3, 1) := by decide +kernel
theorem dX9_count_145 : decode cX9_count 145 = .ok (.baload, 1) := by decide +kernel
theorem dX9_count_146 : decode cX9_count 146 = .ok (.ifCond .eq 7, 3) := by decide +kernel
theorem dX9_count_149 : decode cX9_count 149 = .ok (.iconst 1, 1) := by decide +kernel
theorem dX9_count_150 : decode cX9_count 150 = .ok (.goto 4, 3) := by decide +kernel
theorem dX9_count_153 : decode cX9_count 153 = .ok (.iconst 0, 1) := by decide +kernel
theorem dX9_count_154 : decode cX9_count 154 = .ok (.iadd, 1) := by decide +kernel
theorem dX9_count_155 : decode cX9_count 155 = .ok (.istore_n 2, 1) := by decide +kernel
theorem dX9_count_156 : decode cX9_count 156 = .ok (.iinc 3 1, 3) := by decide +kernel
theorem dX9_count_159 : decode cX9_count 159 = .ok (.goto (-26), 3) := by decide +kernel
theorem dX9_count_162 : decode cX9_count 162 = .ok (.iload_n 2, 1) := by decide +kernel
theorem dX9_count_163 : decode cX9_count 163 = .ok (.ireturn, 1) := by decide +kernel
theorem dX9_count_164 : decode cX9_count 164 = .ok (.iconst 0, 1) := by decide +kernel
theorem dX9_count_165 : decode cX9_count 165 = .ok (.istore_n 3, 1) := by decide +kernel
theorem dX9_count_166 : decode cX9_count 166 = .ok (.iload_n 3, 1) := by decide +kernel
theorem dX9_count_167 : decode cX9_count 167 = .ok (.bipush 72, 2) := by decide +kernel
theorem dX9_count_169 : decode cX9_count 169 = .ok (.if_icmp .ge 26, 3) := by decide +kernel
theorem dX9_count_172 : decode cX9_count 172 = .ok (.iload_n 2, 1) := by decide +kernel
theorem dX9_count_173 : decode cX9_count 173 = .ok (.aload_n 0, 1) := by decide +kernel
theorem dX9_count_174 : decode cX9_count 174 = .ok (.getfield 79, 3) := by decide +kernel
theorem dX9_count_177 : decode cX9_count 177 = .ok (.iload_n 3, 1) := by decide +kernel
theorem dX9_count_178 : decode cX9_count 178 = .ok (.baload, 1) := by decide +kernel
theorem dX9_count_179 : decode cX9_count 179 = .ok (.ifCond .eq 7, 3) := by decide +kernel
theorem dX9_count_182 : decode cX9_count 182 = .ok (.iconst 1, 1) := by decide +kernel
theorem dX9_count_183 : decode cX9_count 183 = .ok (.goto 4, 3) := by decide +kernel
theorem dX9_count_186 : decode cX9_count 186 = .ok (.iconst 0, 1) := by decide +kernel
theorem dX9_count_187 : decode cX9_count 187 = .ok (.iadd, 1) := by decide +kernel
theorem dX9_count_188 : decode cX9_count 188 = .ok (.istore_n 2, 1) := by decide +kernel
theorem dX9_count_189 : decode cX9_count 189 = .ok (.iinc 3 1, 3) := by decide +kernel
theorem dX9_count_192 : decode cX9_count 192 = .ok (.goto (-26), 3) := by decide +kernel
theorem dX9_count_195 : decode cX9_count 195 = .ok (.iload_n 2, 1) := by decide +kernel
theorem dX9_count_196 : decode cX9_count 196 = .ok (.ireturn, 1) := by decide +kernel
theorem dX9_count_197 : decode cX9_count 197 = .ok (.aload_n 0, 1) := by decide +kernel
theorem dX9_count_198 : decode cX9_count 198 = .ok (.getfield 85, 3) := by decide +kernel
theorem dX9_count_201 : decode cX9_count 201 = .ok (.iconst 0, 1) := by decide +kernel
theorem dX9_count_202 : decode cX9_count 202 = .ok (.iaload, 1) := by decide +kernel
theorem dX9_count_203 : decode cX9_count 203 = .ok (.aload_n 0, 1) := by decide +kernel
theorem dX9_count_204 : decode cX9_count 204 = .ok (.getfield 85, 3) := by decide +kernel
theorem dX9_count_207 : decode cX9_count 207 = .ok (.iconst 1, 1) := by decide +kernel
theorem dX9_count_208 : decode cX9_count 208 = .ok (.iaload, 1) := by decide +kernel
theorem dX9_count_209 : decode cX9_count 209 = .ok (.iadd, 1) := by decide +kernel
theorem dX9_count_210 : decode cX9_count 210 = .ok (.aload_n 0, 1) := by decide +kernel
theorem dX9_count_211 : decode cX9_count 211 = .ok (.getfield 85, 3) := by decide +kernel
theorem dX9_count_214 : decode cX9_count 214 = .ok (.iconst 2, 1) := by decide +kernel
theorem dX9_count_215 : decode cX9_count 215 = .ok (.iaload, 1) := by decide +kernel
theorem dX9_count_216 : decode cX9_count 216 = .ok (.iadd, 1) := by decide +kernel
theorem dX9_count_217 : decode cX9_count 217 = .ok (.aload_n 0, 1) := by decide +kernel
theorem dX9_count_218 : decode cX9_count 218 = .ok (.getfield 85, 3) := by decide +kernel
theorem dX9_count_221 : decode cX9_count 221 = .ok (.iconst 3, 1) := by decide +kernel
theorem dX9_count_222 : decode cX9_count 222 = .ok (.iaload, 1) := by decide +kernel
theorem dX9_count_223 : decode cX9_count 223 = .ok (.iadd, 1) := by decide +kernel
theorem dX9_count_224 : decode cX9_count 224 = .ok (.ireturn, 1) := by decide +kernel
theorem dX9_count_225 : decode cX9_count 225 = .ok (.aload_n 0, 1) := by decide +kernel
theorem dX9_count_226 : decode cX9_count 226 = .ok (.getfield 353, 3) := by decide +kernel
theorem dX9_count_229 : decode cX9_count 229 = .ok (.ireturn, 1) := by decide +kernel
theorem dX9_count_230 : decode cX9_count 230 = .ok (.bipush (-2), 2) := by decide +kernel
theorem dX9_count_232 : decode cX9_count 232 = .ok (.ireturn, 1) := by decide +kernel
theorem dX9_digest_0 : decode cX9_digest 0 = .ok (.ldc2_w 370, 3) := by decide +kernel
theorem dX9_digest_3 : decode cX9_digest 3 = .ok (.lstore_n 1, 1) := by decide +kernel
theorem dX9_digest_4 : decode cX9_digest 4 = .ok (.iconst 0, 1) := by decide +kernel
theorem dX9_digest_5 : decode cX9_digest 5 = .ok (.istore_n 3, 1) := by decide +kernel
theorem dX9_digest_6 : decode cX9_digest 6 = .ok (.iload_n 3, 1) := by decide +kernel
theorem dX9_digest_7 : decode cX9_digest 7 = .ok (.bipush 8, 2) := by decide +kernel
theorem dX9_digest_9 : decode cX9_digest 9 = .ok (.if_icmp .ge 22, 3) := by decide +kernel
theorem dX9_digest_12 : decode cX9_digest 12 = .ok (.ldc2_w 372, 3) := by decide +kernel
theorem dX9_digest_15 : decode cX9_digest 15 = .ok (.lload_n 1, 1) := by decide +kernel
theorem dX9_digest_16 : decode cX9_digest 16 = .ok (.lmul, 1) := by decide +kernel
theorem dX9_digest_17 : decode cX9_digest 17 = .ok (.aload_n 0, 1) := by decide +kernel
theorem dX9_digest_18 : decode cX9_digest 18 = .ok (.iload_n 3, 1) := by decide +kernel
theorem dX9_digest_19 : decode cX9_digest 19 = .ok (.invokevirtual 374, 3) := by decide +kernel
theorem dX9_digest_22 : decode cX9_digest 22 = .ok (.i2l, 1) := by decide +kernel
theorem dX9_digest_23 : decode cX9_digest 23 = .ok (.ladd, 1) := by decide +kernel
theorem dX9_digest_24 : decode cX9_digest 24 = .ok (.lstore_n 1, 1) := by decide +kernel
theorem dX9_digest_25 : decode cX9_digest 25 = .ok (.iinc 3 1, 3) := by decide +kernel
theorem dX9_digest_28 : decode cX9_digest 28 = .ok (.goto (-22), 3) := by decide +kernel
theorem dX9_digest_31 : decode cX9_digest 31 = .ok (.aload_n 0, 1) := by decide +kernel
theorem dX9_digest_32 : decode cX9_digest 32 = .ok (.iconst (-1), 1) := by decide +kernel
theorem dX9_digest_33 : decode cX9_digest 33 = .ok (.invokevirtual 234, 3) := by decide +kernel
theorem dX9_digest_36 : decode cX9_digest 36 = .ok (.istore_n 3, 1) := by decide +kernel
theorem dX9_digest_37 : decode cX9_digest 37 = .ok (.ldc2_w 372, 3) := by decide +kernel
theorem dX9_digest_40 : decode cX9_digest 40 = .ok (.lload_n 1, 1) := by decide +kernel
theorem dX9_digest_41 : decode cX9_digest 41 = .ok (.lmul, 1) := by decide +kernel
theorem dX9_digest_42 : decode cX9_digest 42 = .ok (.aload_n 0, 1) := by decide +kernel
theorem dX9_digest_43 : decode cX9_digest 43 = .ok (.invokevirtual 227, 3) := by decide +kernel
theorem dX9_digest_46 : decode cX9_digest 46 = .ok (.i2l, 1) := by decide +kernel
theorem dX9_digest_47 : decode cX9_digest 47 = .ok (.ladd, 1) := by decide +kernel
theorem dX9_digest_48 : decode cX9_digest 48 = .ok (.lstore_n 1, 1) := by decide +kernel
theorem dX9_digest_49 : decode cX9_digest 49 = .ok (.ldc2_w 372, 3) := by decide +kernel
theorem dX9_digest_52 : decode cX9_digest 52 = .ok (.lload_n 1, 1) := by decide +kernel
theorem dX9_digest_53 : decode cX9_digest 53 = .ok (.lmul, 1) := by decide +kernel
theorem dX9_digest_54 : decode cX9_digest 54 = .ok (.aload_n 0, 1) := by decide +kernel
theorem dX9_digest_55 : decode cX9_digest 55 = .ok (.getfield 231, 3) := by decide +kernel
theorem dX9_digest_58 : decode cX9_digest 58 = .ok (.i2l, 1) := by decide +kernel
theorem dX9_digest_59 : decode cX9_digest 59 = .ok (.ladd, 1) := by decide +kernel
theorem dX9_digest_60 : decode cX9_digest 60 = .ok (.lstore_n 1, 1) := by decide +kernel
theorem dX9_digest_61 : decode cX9_digest 61 = .ok (.iconst 0, 1) := by decide +kernel
theorem dX9_digest_62 : decode cX9_digest 62 = .ok (.istore 4, 2) := by decide +kernel
theorem dX9_digest_64 : decode cX9_digest 64 = .ok (.iload 4, 2) := by decide +kernel
theorem dX9_digest_66 : decode cX9_digest 66 = .ok (.bipush 6, 2) := by decide +kernel
theorem dX9_digest_68 : decode cX9_digest 68 = .ok (.if_icmp .ge 42, 3) := by decide +kernel
theorem dX9_digest_71 : decode cX9_digest 71 = .ok (.iconst 0, 1) := by decide +kernel
theorem dX9_digest_72 : decode cX9_digest 72 = .ok (.istore 5, 2) := by decide +kernel
theorem dX9_digest_74 : decode cX9_digest 74 = .ok (.iload 5, 2) := by decide +kernel
theorem dX9_digest_76 : decode cX9_digest 76 = .ok (.bipush 12, 2) := by decide +kernel
theorem dX9_digest_78 : decode cX9_digest 78 = .ok (.if_icmp .ge 26, 3) := by decide +kernel
theorem dX9_digest_81 : decode cX9_digest 81 = .ok (.ldc2_w 372, 3) := by decide +kernel
theorem dX9_digest_84 : decode cX9_digest 84 = .ok (.lload_n 1, 1) := by decide +kernel
theorem dX9_digest_85 : decode cX9_digest 85 = .ok (.lmul, 1) := by decide +kernel
theorem dX9_digest_86 : decode cX9_digest 86 = .ok (.aload_n 0, 1) := by decide +kernel
theorem dX9_digest_87 : decode cX9_digest 87 = .ok (.iconst (-1), 1) := by decide +kernel
theorem dX9_digest_88 : decode cX9_digest 88 = .ok (.iconst (-1), 1) := by decide +kernel
theorem dX9_digest_89 : decode cX9_digest 89 = .ok (.iload 4, 2) := by decide +kernel
theorem dX9_digest_91 : decode cX9_digest 91 = .ok (.iload 5, 2) := by decide +kernel
theorem dX9_digest_93 : decode cX9_digest 93 = .ok (.invokevirtual 223, 3) := by decide +kernel
theorem dX9_digest_96 : decode cX9_digest 96 = .ok (.ladd, 1) := by decide +kernel
theorem dX9_digest_97 : decode cX9_digest 97 = .ok (.lstore_n 1, 1) := by decide +kernel
theorem dX9_digest_98 : decode cX9_digest 98 = .ok (.iinc 5 1, 3) := by decide +kernel
theorem dX9_digest_101 : decode cX9_digest 101 = .ok (.goto (-27), 3) := by decide +kernel
theorem dX9_digest_104 : decode cX9_digest 104 = .ok (.iinc 4 1, 3) := by decide +kernel
theorem dX9_digest_107 : decode cX9_digest 107 = .ok (.goto (-43), 3) := by decide +kernel
theorem dX9_digest_110 : decode cX9_digest 110 = .ok (.iconst 0, 1) := by decide +kernel
theorem dX9_digest_111 : decode cX9_digest 111 = .ok (.istore 4, 2) := by decide +kernel
theorem dX9_digest_113 : decode cX9_digest 113 = .ok (.iload 4, 2) := by decide +kernel
theorem dX9_digest_115 : decode cX9_digest 115 = .ok (.bipush 6, 2) := by decide +kernel
theorem dX9_digest_117 : decode cX9_digest 117 = .ok (.if_icmp .ge 25, 3) := by decide +kernel
theorem dX9_digest_120 : decode cX9_digest 120 = .ok (.ldc2_w 372, 3) := by decide +kernel
theorem dX9_digest_123 : decode cX9_digest 123 = .ok (.lload_n 1, 1) := by decide +kernel
theorem dX9_digest_124 : decode cX9_digest 124 = .ok (.lmul, 1) := by decide +kernel
theorem dX9_digest_125 : decode cX9_digest 125 = .ok (.aload_n 0, 1) := by decide +kernel
theorem dX9_digest_126 : decode cX9_digest 126 = .ok (.iconst (-1), 1) := by decide +kernel
theorem dX9_digest_127 : decode cX9_digest 127 = .ok (.iload 4, 2) := by decide +kernel
theorem dX9_digest_129 : decode cX9_digest 129 = .ok (.bipush 11, 2) := by decide +kernel
theorem dX9_digest_131 : decode cX9_digest 131 = .ok (.invokevirtual 267, 3) := by decide +kernel
theorem dX9_digest_134 : decode cX9_digest 134 = .ok (.ladd, 1) := by decide +kernel
theorem dX9_digest_135 : decode cX9_digest 135 = .ok (.lstore_n 1, 1) := by decide +kernel
theorem dX9_digest_136 : decode cX9_digest 136 = .ok (.iinc 4 1, 3) := by decide +kernel
theorem dX9_digest_139 : decode cX9_digest 139 = .ok (.goto (-26), 3) := by decide +kernel
theorem dX9_digest_142 : decode cX9_digest 142 = .ok (.iconst 0, 1) := by decide +kernel
theorem dX9_digest_143 : decode cX9_digest 143 = .ok (.istore 4, 2) := by decide +kernel
theorem dX9_digest_145 : decode cX9_digest 145 = .ok (.iload 4, 2) := by decide +kernel
theorem dX9_digest_147 : decode cX9_digest 147 = .ok (.bipush 6, 2) := by decide +kernel
theorem dX9_digest_149 : decode cX9_digest 149 = .ok (.if_icmp .ge 23, 3) := by decide +kernel
theorem dX9_digest_152 : decode cX9_digest 152 = .ok (.ldc2_w 372, 3) := by decide +kernel
theorem dX9_digest_155 : decode cX9_digest 155 = .ok (.lload_n 1, 1) := by decide +kernel
theorem dX9_digest_156 : decode cX9_digest 156 = .ok (.lmul, 1) := by decide +kernel
theorem dX9_digest_157 : decode cX9_digest 157 = .ok (.aload_n 0, 1) := by decide +kernel
theorem dX9_digest_158 : decode cX9_digest 158 = .ok (.iload 4, 2) := by decide +kernel
theorem dX9_digest_160 : decode cX9_digest 160 = .ok (.iconst 0, 1) := by decide +kernel
theorem dX9_digest_161 : decode cX9_digest 161 = .ok (.invokevirtual 286, 3) := by decide +kernel
theorem dX9_digest_164 : decode cX9_digest 164 = .ok (.ladd, 1) := by decide +kernel
theorem dX9_digest_165 : decode cX9_digest 165 = .ok (.lstore_n 1, 1) := by decide +kernel
theorem dX9_digest_166 : decode cX9_digest 166 = .ok (.iinc 4 1, 3) := by decide +kernel
theorem dX9_digest_169 : decode cX9_digest 169 = .ok (.goto (-24), 3) := by decide +kernel
theorem dX9_digest_172 : decode cX9_digest 172 = .ok (.iconst 0, 1) := by decide +kernel
theorem dX9_digest_173 : decode cX9_digest 173 = .ok (.istore 4, 2) := by decide +kernel
theorem dX9_digest_175 : decode cX9_digest 175 = .ok (.iload 4, 2) := by decide +kernel
theorem dX9_digest_177 : decode cX9_digest 177 = .ok (.iconst 4, 1) := by decide +kernel
theorem dX9_digest_178 : decode cX9_digest 178 = .ok (.if_icmp .ge 30, 3) := by decide +kernel
theorem dX9_digest_181 : decode cX9_digest 181 = .ok (.aload_n 0, 1) := by decide +kernel
theorem dX9_digest_182 : decode cX9_digest 182 = .ok (.iload 4, 2) := by decide +kernel
theorem dX9_digest_184 : decode cX9_digest 184 = .ok (.iconst 0, 1) := by decide +kernel
theorem dX9_digest_185 : decode cX9_digest 185 = .ok (.invokevirtual 331, 3) := by decide +kernel
theorem dX9_digest_188 : decode cX9_digest 188 = .ok (.lstore 5, 2) := by decide +kernel
theorem dX9_digest_190 : decode cX9_digest 190 = .ok (.ldc2_w 372, 3) := by decide +kernel
theorem dX9_digest_193 : decode cX9_digest 193 = .ok (.lload_n 1, 1) := by decide +kernel
theorem dX9_digest_194 : decode cX9_digest 194 = .ok (.lmul, 1) := by decide +kernel
theorem dX9_digest_195 : decode cX9_digest 195 = .ok (.aload_n 0, 1) := by decide +kernel
theorem dX9_digest_196 : decode cX9_digest 196 = .ok (.getfield 313, 3) := by decide +kernel
theorem dX9_digest_199 : decode cX9_digest 199 = .ok (.i2l, 1) := by decide +kernel
theorem dX9_digest_200 : decode cX9_digest 200 = .ok (.ladd, 1) := by decide +kernel
theorem dX9_digest_201 : decode cX9_digest 201 = .ok (.lstore_n 1, 1) := by decide +kernel
theorem dX9_digest_202 : decode cX9_digest 202 = .ok (.iinc 4 1, 3) := by decide +kernel
theorem dX9_digest_205 : decode cX9_digest 205 = .ok (.goto (-30), 3) := by decide +kernel
theorem dX9_digest_208 : decode cX9_digest 208 = .ok (.lload_n 1, 1) := by decide +kernel
theorem dX9_digest_209 : decode cX9_digest 209 = .ok (.lreturn, 1) := by decide +kernel
