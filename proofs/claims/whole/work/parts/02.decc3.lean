theorem dX8_read_62 : decode cX8_read 62 = .ok (.iload 4, 2) := by decide +kernel
theorem dX8_read_64 : decode cX8_read 64 = .ok (.iaload, 1) := by decide +kernel
theorem dX8_read_65 : decode cX8_read 65 = .ok (.aload_n 2, 1) := by decide +kernel
theorem dX8_read_66 : decode cX8_read 66 = .ok (.iload 4, 2) := by decide +kernel
theorem dX8_read_68 : decode cX8_read 68 = .ok (.iconst 1, 1) := by decide +kernel
theorem dX8_read_69 : decode cX8_read 69 = .ok (.iadd, 1) := by decide +kernel
theorem dX8_read_70 : decode cX8_read 70 = .ok (.iaload, 1) := by decide +kernel
theorem dX8_read_71 : decode cX8_read 71 = .ok (.aload_n 2, 1) := by decide +kernel
theorem dX8_read_72 : decode cX8_read 72 = .ok (.iload 4, 2) := by decide +kernel
theorem dX8_read_74 : decode cX8_read 74 = .ok (.iconst 2, 1) := by decide +kernel
theorem dX8_read_75 : decode cX8_read 75 = .ok (.iadd, 1) := by decide +kernel
theorem dX8_read_76 : decode cX8_read 76 = .ok (.iaload, 1) := by decide +kernel
theorem dX8_read_77 : decode cX8_read 77 = .ok (.aload_n 2, 1) := by decide +kernel
theorem dX8_read_78 : decode cX8_read 78 = .ok (.iload 4, 2) := by decide +kernel
theorem dX8_read_80 : decode cX8_read 80 = .ok (.iconst 3, 1) := by decide +kernel
theorem dX8_read_81 : decode cX8_read 81 = .ok (.iadd, 1) := by decide +kernel
theorem dX8_read_82 : decode cX8_read 82 = .ok (.iaload, 1) := by decide +kernel
theorem dX8_read_83 : decode cX8_read 83 = .ok (.invokevirtual 346, 3) := by decide +kernel
theorem dX8_read_86 : decode cX8_read 86 = .ok (.ifCond .ge 5, 3) := by decide +kernel
theorem dX8_read_89 : decode cX8_read 89 = .ok (.iload_n 3, 1) := by decide +kernel
theorem dX8_read_90 : decode cX8_read 90 = .ok (.ireturn, 1) := by decide +kernel
theorem dX8_read_91 : decode cX8_read 91 = .ok (.iinc 3 1, 3) := by decide +kernel
theorem dX8_read_94 : decode cX8_read 94 = .ok (.iinc 4 4, 3) := by decide +kernel
theorem dX8_read_97 : decode cX8_read 97 = .ok (.goto (-53), 3) := by decide +kernel
theorem dX8_read_100 : decode cX8_read 100 = .ok (.iload_n 3, 1) := by decide +kernel
theorem dX8_read_101 : decode cX8_read 101 = .ok (.ireturn, 1) := by decide +kernel
theorem dX8_write_0 : decode cX8_write 0 = .ok (.iload_n 1, 1) := by decide +kernel
theorem dX8_write_1 : decode cX8_write 1 = .ok (.iconst 4, 1) := by decide +kernel
theorem dX8_write_2 : decode cX8_write 2 = .ok (.invokestatic 66, 3) := by decide +kernel
theorem dX8_write_5 : decode cX8_write 5 = .ok (.ifCond .eq 13, 3) := by decide +kernel
theorem dX8_write_8 : decode cX8_write 8 = .ok (.iload_n 2, 1) := by decide +kernel
theorem dX8_write_9 : decode cX8_write 9 = .ok (.iload_n 3, 1) := by decide +kernel
theorem dX8_write_10 : decode cX8_write 10 = .ok (.iload 4, 2) := by decide +kernel
theorem dX8_write_12 : decode cX8_write 12 = .ok (.invokestatic 81, 3) := by decide +kernel
theorem dX8_write_15 : decode cX8_write 15 = .ok (.ifCond .ne 6, 3) := by decide +kernel
theorem dX8_write_18 : decode cX8_write 18 = .ok (.bipush (-2), 2) := by decide +kernel
theorem dX8_write_20 : decode cX8_write 20 = .ok (.ireturn, 1) := by decide +kernel
theorem dX8_write_21 : decode cX8_write 21 = .ok (.aload_n 0, 1) := by decide +kernel
theorem dX8_write_22 : decode cX8_write 22 = .ok (.getfield 56, 3) := by decide +kernel
theorem dX8_write_25 : decode cX8_write 25 = .ok (.iload_n 1, 1) := by decide +kernel
theorem dX8_write_26 : decode cX8_write 26 = .ok (.aaload, 1) := by decide +kernel
theorem dX8_write_27 : decode cX8_write 27 = .ok (.getfield 319, 3) := by decide +kernel
theorem dX8_write_30 : decode cX8_write 30 = .ok (.ifCond .eq 9, 3) := by decide +kernel
theorem dX8_write_33 : decode cX8_write 33 = .ok (.aload_n 0, 1) := by decide +kernel
theorem dX8_write_34 : decode cX8_write 34 = .ok (.iconst 1, 1) := by decide +kernel
theorem dX8_write_35 : decode cX8_write 35 = .ok (.invokevirtual 312, 3) := by decide +kernel
theorem dX8_write_38 : decode cX8_write 38 = .ok (.ireturn, 1) := by decide +kernel
theorem dX8_write_39 : decode cX8_write 39 = .ok (.aload_n 0, 1) := by decide +kernel
theorem dX8_write_40 : decode cX8_write 40 = .ok (.getfield 21, 3) := by decide +kernel
theorem dX8_write_43 : decode cX8_write 43 = .ok (.invokevirtual 200, 3) := by decide +kernel
theorem dX8_write_46 : decode cX8_write 46 = .ok (.iload_n 2, 1) := by decide +kernel
theorem dX8_write_47 : decode cX8_write 47 = .ok (.iload_n 3, 1) := by decide +kernel
theorem dX8_write_48 : decode cX8_write 48 = .ok (.iload 4, 2) := by decide +kernel
theorem dX8_write_50 : decode cX8_write 50 = .ok (.iconst 0, 1) := by decide +kernel
theorem dX8_write_51 : decode cX8_write 51 = .ok (.invokestatic 85, 3) := by decide +kernel
theorem dX8_write_54 : decode cX8_write 54 = .ok (.istore 5, 2) := by decide +kernel
theorem dX8_write_56 : decode cX8_write 56 = .ok (.aload_n 0, 1) := by decide +kernel
theorem dX8_write_57 : decode cX8_write 57 = .ok (.getfield 56, 3) := by decide +kernel
theorem dX8_write_60 : decode cX8_write 60 = .ok (.iload_n 1, 1) := by decide +kernel
theorem dX8_write_61 : decode cX8_write 61 = .ok (.aaload, 1) := by decide +kernel
theorem dX8_write_62 : decode cX8_write 62 = .ok (.getfield 323, 3) := by decide +kernel
theorem dX8_write_65 : decode cX8_write 65 = .ok (.bipush 12, 2) := by decide +kernel
theorem dX8_write_67 : decode cX8_write 67 = .ok (.invokestatic 349, 3) := by decide +kernel
theorem dX8_write_70 : decode cX8_write 70 = .ok (.istore 6, 2) := by decide +kernel
theorem dX8_write_72 : decode cX8_write 72 = .ok (.iconst 0, 1) := by decide +kernel
theorem dX8_write_73 : decode cX8_write 73 = .ok (.istore 7, 2) := by decide +kernel
theorem dX8_write_75 : decode cX8_write 75 = .ok (.iload 7, 2) := by decide +kernel
theorem dX8_write_77 : decode cX8_write 77 = .ok (.iload 6, 2) := by decide +kernel
theorem dX8_write_79 : decode cX8_write 79 = .ok (.if_icmp .ge 34, 3) := by decide +kernel
theorem dX8_write_82 : decode cX8_write 82 = .ok (.aload_n 0, 1) := by decide +kernel
theorem dX8_write_83 : decode cX8_write 83 = .ok (.getfield 56, 3) := by decide +kernel
theorem dX8_write_86 : decode cX8_write 86 = .ok (.iload_n 1, 1) := by decide +kernel
theorem dX8_write_87 : decode cX8_write 87 = .ok (.aaload, 1) := by decide +kernel
theorem dX8_write_88 : decode cX8_write 88 = .ok (.iload 7, 2) := by decide +kernel
theorem dX8_write_90 : decode cX8_write 90 = .ok (.aload_n 0, 1) := by decide +kernel
theorem dX8_write_91 : decode cX8_write 91 = .ok (.getfield 21, 3) := by decide +kernel
theorem dX8_write_94 : decode cX8_write 94 = .ok (.getfield 191, 3) := by decide +kernel
theorem dX8_write_97 : decode cX8_write 97 = .ok (.iload 5, 2) := by decide +kernel
theorem dX8_write_99 : decode cX8_write 99 = .ok (.iload 7, 2) := by decide +kernel
theorem dX8_write_101 : decode cX8_write 101 = .ok (.iadd, 1) := by decide +kernel
theorem dX8_write_102 : decode cX8_write 102 = .ok (.laload, 1) := by decide +kernel
theorem dX8_write_103 : decode cX8_write 103 = .ok (.l2i, 1) := by decide +kernel
theorem dX8_write_104 : decode cX8_write 104 = .ok (.invokevirtual 327, 3) := by decide +kernel
theorem dX8_write_107 : decode cX8_write 107 = .ok (.iinc 7 1, 3) := by decide +kernel
theorem dX8_write_110 : decode cX8_write 110 = .ok (.goto (-35), 3) := by decide +kernel
theorem dX8_write_113 : decode cX8_write 113 = .ok (.iload 6, 2) := by decide +kernel
theorem dX8_write_115 : decode cX8_write 115 = .ok (.ireturn, 1) := by decide +kernel
theorem dX8_count_0 : decode cX8_count 0 = .ok (.iload_n 1, 1) := by decide +kernel
theorem dX8_count_1 : decode cX8_count 1 = .ok (.tableswitch 126 0 8 #[51, 59, 67, 75, 83, 94, 105, 116, 121], 51) := by decide +kernel
theorem dX8_count_52 : decode cX8_count 52 = .ok (.aload_n 0, 1) := by decide +kernel
theorem dX8_count_53 : decode cX8_count 53 = .ok (.getfield 12, 3) := by decide +kernel
theorem dX8_count_56 : decode cX8_count 56 = .ok (.getfield 112, 3) := by decide +kernel
theorem dX8_count_59 : decode cX8_count 59 = .ok (.ireturn, 1) := by decide +kernel
theorem dX8_count_60 : decode cX8_count 60 = .ok (.aload_n 0, 1) := by decide +kernel
theorem dX8_count_61 : decode cX8_count 61 = .ok (.getfield 12, 3) := by decide +kernel
theorem dX8_count_64 : decode cX8_count 64 = .ok (.invokevirtual 355, 3) := by decide +kernel
theorem dX8_count_67 : decode cX8_count 67 = .ok (.ireturn, 1) := by decide +kernel
theorem dX8_count_68 : decode cX8_count 68 = .ok (.aload_n 0, 1) := by decide +kernel
theorem dX8_count_69 : decode cX8_count 69 = .ok (.getfield 12, 3) := by decide +kernel
theorem dX8_count_72 : decode cX8_count 72 = .ok (.getfield 141, 3) := by decide +kernel
theorem dX8_count_75 : decode cX8_count 75 = .ok (.ireturn, 1) := by decide +kernel
theorem dX8_count_76 : decode cX8_count 76 = .ok (.aload_n 0, 1) := by decide +kernel
theorem dX8_count_77 : decode cX8_count 77 = .ok (.getfield 21, 3) := by decide +kernel
theorem dX8_count_80 : decode cX8_count 80 = .ok (.getfield 181, 3) := by decide +kernel
theorem dX8_count_83 : decode cX8_count 83 = .ok (.ireturn, 1) := by decide +kernel
theorem dX8_count_84 : decode cX8_count 84 = .ok (.aload_n 0, 1) := by decide +kernel
theorem dX8_count_85 : decode cX8_count 85 = .ok (.getfield 21, 3) := by decide +kernel
theorem dX8_count_88 : decode cX8_count 88 = .ok (.getfield 144, 3) := by decide +kernel
theorem dX8_count_91 : decode cX8_count 91 = .ok (.invokestatic 358, 3) := by decide +kernel
theorem dX8_count_94 : decode cX8_count 94 = .ok (.ireturn, 1) := by decide +kernel
theorem dX8_count_95 : decode cX8_count 95 = .ok (.aload_n 0, 1) := by decide +kernel
theorem dX8_count_96 : decode cX8_count 96 = .ok (.getfield 21, 3) := by decide +kernel
theorem dX8_count_99 : decode cX8_count 99 = .ok (.getfield 178, 3) := by decide +kernel
theorem dX8_count_102 : decode cX8_count 102 = .ok (.invokestatic 358, 3) := by decide +kernel
theorem dX8_count_105 : decode cX8_count 105 = .ok (.ireturn, 1) := by decide +kernel
theorem dX8_count_106 : decode cX8_count 106 = .ok (.aload_n 0, 1) := by decide +kernel
theorem dX8_count_107 : decode cX8_count 107 = .ok (.getfield 44, 3) := by decide +kernel
theorem dX8_count_110 : decode cX8_count 110 = .ok (.getfield 275, 3) := by decide +kernel
theorem dX8_count_113 : decode cX8_count 113 = .ok (.invokestatic 358, 3) := by decide +kernel
theorem dX8_count_116 : decode cX8_count 116 = .ok (.ireturn, 1) := by decide +kernel
theorem dX8_count_117 : decode cX8_count 117 = .ok (.aload_n 0, 1) := by decide +kernel
theorem dX8_count_118 : decode cX8_count 118 = .ok (.invokevirtual 362, 3) := by decide +kernel
theorem dX8_count_121 : decode cX8_count 121 = .ok (.ireturn, 1) := by decide +kernel
theorem dX8_count_122 : decode cX8_count 122 = .ok (.aload_n 0, 1) := by decide +kernel
theorem dX8_count_123 : decode cX8_count 123 = .ok (.getfield 60, 3) := by decide +kernel
theorem dX8_count_126 : decode cX8_count 126 = .ok (.ireturn, 1) := by decide +kernel
theorem dX8_count_127 : decode cX8_count 127 = .ok (.bipush (-2), 2) := by decide +kernel
theorem dX8_count_129 : decode cX8_count 129 = .ok (.ireturn, 1) := by decide +kernel
theorem dX8_digest_0 : decode cX8_digest 0 = .ok (.aload_n 0, 1) := by decide +kernel
theorem dX8_digest_1 : decode cX8_digest 1 = .ok (.getfield 21, 3) := by decide +kernel
theorem dX8_digest_4 : decode cX8_digest 4 = .ok (.invokevirtual 200, 3) := by decide +kernel
theorem dX8_digest_7 : decode cX8_digest 7 = .ok (.ldc2_w 365, 3) := by decide +kernel
theorem dX8_digest_10 : decode cX8_digest 10 = .ok (.lstore_n 1, 1) := by decide +kernel
theorem dX8_digest_11 : decode cX8_digest 11 = .ok (.iconst 0, 1) := by decide +kernel
theorem dX8_digest_12 : decode cX8_digest 12 = .ok (.istore_n 3, 1) := by decide +kernel
theorem dX8_digest_13 : decode cX8_digest 13 = .ok (.iload_n 3, 1) := by decide +kernel
theorem dX8_digest_14 : decode cX8_digest 14 = .ok (.bipush 8, 2) := by decide +kernel
theorem dX8_digest_16 : decode cX8_digest 16 = .ok (.if_icmp .ge 22, 3) := by decide +kernel
theorem dX8_digest_19 : decode cX8_digest 19 = .ok (.ldc2_w 367, 3) := by decide +kernel
theorem dX8_digest_22 : decode cX8_digest 22 = .ok (.lload_n 1, 1) := by decide +kernel
theorem dX8_digest_23 : decode cX8_digest 23 = .ok (.lmul, 1) := by decide +kernel
theorem dX8_digest_24 : decode cX8_digest 24 = .ok (.aload_n 0, 1) := by decide +kernel
theorem dX8_digest_25 : decode cX8_digest 25 = .ok (.iload_n 3, 1) := by decide +kernel
theorem dX8_digest_26 : decode cX8_digest 26 = .ok (.invokevirtual 369, 3) := by decide +kernel
theorem dX8_digest_29 : decode cX8_digest 29 = .ok (.i2l, 1) := by decide +kernel
theorem dX8_digest_30 : decode cX8_digest 30 = .ok (.ladd, 1) := by decide +kernel
theorem dX8_digest_31 : decode cX8_digest 31 = .ok (.lstore_n 1, 1) := by decide +kernel
theorem dX8_digest_32 : decode cX8_digest 32 = .ok (.iinc 3 1, 3) := by decide +kernel
theorem dX8_digest_35 : decode cX8_digest 35 = .ok (.goto (-22), 3) := by decide +kernel
theorem dX8_digest_38 : decode cX8_digest 38 = .ok (.ldc2_w 367, 3) := by decide +kernel
theorem dX8_digest_41 : decode cX8_digest 41 = .ok (.lload_n 1, 1) := by decide +kernel
theorem dX8_digest_42 : decode cX8_digest 42 = .ok (.lmul, 1) := by decide +kernel
theorem dX8_digest_43 : decode cX8_digest 43 = .ok (.aload_n 0, 1) := by decide +kernel
theorem dX8_digest_44 : decode cX8_digest 44 = .ok (.getfield 21, 3) := by decide +kernel
theorem dX8_digest_47 : decode cX8_digest 47 = .ok (.invokevirtual 207, 3) := by decide +kernel
theorem dX8_digest_50 : decode cX8_digest 50 = .ok (.i2l, 1) := by decide +kernel
theorem dX8_digest_51 : decode cX8_digest 51 = .ok (.ladd, 1) := by decide +kernel
theorem dX8_digest_52 : decode cX8_digest 52 = .ok (.lstore_n 1, 1) := by decide +kernel
theorem dX8_digest_53 : decode cX8_digest 53 = .ok (.ldc2_w 367, 3) := by decide +kernel
theorem dX8_digest_56 : decode cX8_digest 56 = .ok (.lload_n 1, 1) := by decide +kernel
theorem dX8_digest_57 : decode cX8_digest 57 = .ok (.lmul, 1) := by decide +kernel
theorem dX8_digest_58 : decode cX8_digest 58 = .ok (.aload_n 0, 1) := by decide +kernel
theorem dX8_digest_59 : decode cX8_digest 59 = .ok (.getfield 21, 3) := by decide +kernel
theorem dX8_digest_62 : decode cX8_digest 62 = .ok (.invokevirtual 211, 3) := by decide +kernel
theorem dX8_digest_65 : decode cX8_digest 65 = .ok (.i2l, 1) := by decide +kernel
theorem dX8_digest_66 : decode cX8_digest 66 = .ok (.ladd, 1) := by decide +kernel
theorem dX8_digest_67 : decode cX8_digest 67 = .ok (.lstore_n 1, 1) := by decide +kernel
theorem dX8_digest_68 : decode cX8_digest 68 = .ok (.iconst 0, 1) := by decide +kernel
theorem dX8_digest_69 : decode cX8_digest 69 = .ok (.istore_n 3, 1) := by decide +kernel
theorem dX8_digest_70 : decode cX8_digest 70 = .ok (.iload_n 3, 1) := by decide +kernel
theorem dX8_digest_71 : decode cX8_digest 71 = .ok (.bipush 6, 2) := by decide +kernel
theorem dX8_digest_73 : decode cX8_digest 73 = .ok (.if_icmp .ge 44, 3) := by decide +kernel
theorem dX8_digest_76 : decode cX8_digest 76 = .ok (.iconst 0, 1) := by decide +kernel
theorem dX8_digest_77 : decode cX8_digest 77 = .ok (.istore 4, 2) := by decide +kernel
theorem dX8_digest_79 : decode cX8_digest 79 = .ok (.iload 4, 2) := by decide +kernel
theorem dX8_digest_81 : decode cX8_digest 81 = .ok (.bipush 12, 2) := by decide +kernel
theorem dX8_digest_83 : decode cX8_digest 83 = .ok (.if_icmp .ge 28, 3) := by decide +kernel
theorem dX8_digest_86 : decode cX8_digest 86 = .ok (.ldc2_w 367, 3) := by decide +kernel
theorem dX8_digest_89 : decode cX8_digest 89 = .ok (.lload_n 1, 1) := by decide +kernel
theorem dX8_digest_90 : decode cX8_digest 90 = .ok (.lmul, 1) := by decide +kernel
theorem dX8_digest_91 : decode cX8_digest 91 = .ok (.aload_n 0, 1) := by decide +kernel
theorem dX8_digest_92 : decode cX8_digest 92 = .ok (.getfield 21, 3) := by decide +kernel
theorem dX8_digest_95 : decode cX8_digest 95 = .ok (.iconst (-1), 1) := by decide +kernel
theorem dX8_digest_96 : decode cX8_digest 96 = .ok (.iconst (-1), 1) := by decide +kernel
theorem dX8_digest_97 : decode cX8_digest 97 = .ok (.iload_n 3, 1) := by decide +kernel
theorem dX8_digest_98 : decode cX8_digest 98 = .ok (.iload 4, 2) := by decide +kernel
theorem dX8_digest_100 : decode cX8_digest 100 = .ok (.invokevirtual 203, 3) := by decide +kernel
theorem dX8_digest_103 : decode cX8_digest 103 = .ok (.ladd, 1) := by decide +kernel
theorem dX8_digest_104 : decode cX8_digest 104 = .ok (.lstore_n 1, 1) := by decide +kernel
theorem dX8_digest_105 : decode cX8_digest 105 = .ok (.iinc 4 1, 3) := by decide +kernel
theorem dX8_digest_108 : decode cX8_digest 108 = .ok (.goto (-29), 3) := by decide +kernel
theorem dX8_digest_111 : decode cX8_digest 111 = .ok (.iinc 3 1, 3) := by decide +kernel
theorem dX8_digest_114 : decode cX8_digest 114 = .ok (.goto (-44), 3) := by decide +kernel
theorem dX8_digest_117 : decode cX8_digest 117 = .ok (.iconst 0, 1) := by decide +kernel
theorem dX8_digest_118 : decode cX8_digest 118 = .ok (.istore_n 3, 1) := by decide +kernel
theorem dX8_digest_119 : decode cX8_digest 119 = .ok (.iload_n 3, 1) := by decide +kernel
theorem dX8_digest_120 : decode cX8_digest 120 = .ok (.bipush 6, 2) := by decide +kernel
theorem dX8_digest_122 : decode cX8_digest 122 = .ok (.if_icmp .ge 27, 3) := by decide +kernel
theorem dX8_digest_125 : decode cX8_digest 125 = .ok (.ldc2_w 367, 3) := by decide +kernel
theorem dX8_digest_128 : decode cX8_digest 128 = .ok (.lload_n 1, 1) := by decide +kernel
theorem dX8_digest_129 : decode cX8_digest 129 = .ok (.lmul, 1) := by decide +kernel
theorem dX8_digest_130 : decode cX8_digest 130 = .ok (.aload_n 0, 1) := by decide +kernel
theorem dX8_digest_131 : decode cX8_digest 131 = .ok (.getfield 30, 3) := by decide +kernel
theorem dX8_digest_134 : decode cX8_digest 134 = .ok (.iconst (-1), 1) := by decide +kernel
theorem dX8_digest_135 : decode cX8_digest 135 = .ok (.iload_n 3, 1) := by decide +kernel
theorem dX8_digest_136 : decode cX8_digest 136 = .ok (.bipush 11, 2) := by decide +kernel
theorem dX8_digest_138 : decode cX8_digest 138 = .ok (.invokevirtual 232, 3) := by decide +kernel
theorem dX8_digest_141 : decode cX8_digest 141 = .ok (.ladd, 1) := by decide +kernel
theorem dX8_digest_142 : decode cX8_digest 142 = .ok (.lstore_n 1, 1) := by decide +kernel
theorem dX8_digest_143 : decode cX8_digest 143 = .ok (.iinc 3 1, 3) := by decide +kernel
theorem dX8_digest_146 : decode cX8_digest 146 = .ok (.goto (-27), 3) := by decide +kernel
theorem dX8_digest_149 : decode cX8_digest 149 = .ok (.iconst 0, 1) := by decide +kernel
theorem dX8_digest_150 : decode cX8_digest 150 = .ok (.istore_n 3, 1) := by decide +kernel
theorem dX8_digest_151 : decode cX8_digest 151 = .ok (.iload_n 3, 1) := by decide +kernel
theorem dX8_digest_152 : decode cX8_digest 152 = .ok (.bipush 6, 2) := by decide +kernel
theorem dX8_digest_154 : decode cX8_digest 154 = .ok (.if_icmp .ge 25, 3) := by decide +kernel
theorem dX8_digest_157 : decode cX8_digest 157 = .ok (.ldc2_w 367, 3) := by decide +kernel
theorem dX8_digest_160 : decode cX8_digest 160 = .ok (.lload_n 1, 1) := by decide +kernel
theorem dX8_digest_161 : decode cX8_digest 161 = .ok (.lmul, 1) := by decide +kernel
theorem dX8_digest_162 : decode cX8_digest 162 = .ok (.aload_n 0, 1) := by decide +kernel
theorem dX8_digest_163 : decode cX8_digest 163 = .ok (.getfield 44, 3) := by decide +kernel
theorem dX8_digest_166 : decode cX8_digest 166 = .ok (.iload_n 3, 1) := by decide +kernel
theorem dX8_digest_167 : decode cX8_digest 167 = .ok (.iconst 0, 1) := by decide +kernel
theorem dX8_digest_168 : decode cX8_digest 168 = .ok (.invokevirtual 268, 3) := by decide +kernel
theorem dX8_digest_171 : decode cX8_digest 171 = .ok (.ladd, 1) := by decide +kernel
theorem dX8_digest_172 : decode cX8_digest 172 = .ok (.lstore_n 1, 1) := by decide +kernel
theorem dX8_digest_173 : decode cX8_digest 173 = .ok (.iinc 3 1, 3) := by decide +kernel
theorem dX8_digest_176 : decode cX8_digest 176 = .ok (.goto (-25), 3) := by decide +kernel
theorem dX8_digest_179 : decode cX8_digest 179 = .ok (.iconst 0, 1) := by decide +kernel
theorem dX8_digest_180 : decode cX8_digest 180 = .ok (.istore_n 3, 1) := by decide +kernel
theorem dX8_digest_181 : decode cX8_digest 181 = .ok (.iload_n 3, 1) := by decide +kernel
theorem dX8_digest_182 : decode cX8_digest 182 = .ok (.iconst 4, 1) := by decide +kernel
theorem dX8_digest_183 : decode cX8_digest 183 = .ok (.if_icmp .ge 26, 3) := by decide +kernel
theorem dX8_digest_186 : decode cX8_digest 186 = .ok (.ldc2_w 367, 3) := by decide +kernel
theorem dX8_digest_189 : decode cX8_digest 189 = .ok (.lload_n 1, 1) := by decide +kernel
theorem dX8_digest_190 : decode cX8_digest 190 = .ok (.lmul, 1) := by decide +kernel
theorem dX8_digest_191 : decode cX8_digest 191 = .ok (.aload_n 0, 1) := by decide +kernel
theorem dX8_digest_192 : decode cX8_digest 192 = .ok (.getfield 50, 3) := by decide +kernel
theorem dX8_digest_195 : decode cX8_digest 195 = .ok (.iload_n 3, 1) := by decide +kernel
theorem dX8_digest_196 : decode cX8_digest 196 = .ok (.aaload, 1) := by decide +kernel
theorem dX8_digest_197 : decode cX8_digest 197 = .ok (.invokevirtual 287, 3) := by decide +kernel
theorem dX8_digest_200 : decode cX8_digest 200 = .ok (.i2l, 1) := by decide +kernel
theorem dX8_digest_201 : decode cX8_digest 201 = .ok (.ladd, 1) := by decide +kernel
theorem dX8_digest_202 : decode cX8_digest 202 = .ok (.lstore_n 1, 1) := by decide +kernel
theorem dX8_digest_203 : decode cX8_digest 203 = .ok (.iinc 3 1, 3) := by decide +kernel
theorem dX8_digest_206 : decode cX8_digest 206 = .ok (.goto (-25), 3) := by decide +kernel
theorem dX8_digest_209 : decode cX8_digest 209 = .ok (.lload_n 1, 1) := by decide +kernel
theorem dX8_digest_210 : decode cX8_digest 210 = .ok (.lreturn, 1) := by decide +kernel
theorem dX8_refused_0 : decode cX8_refused 0 = .ok (.ldc2_w 372, 3) := by decide +kernel
theorem dX8_refused_3 : decode cX8_refused 3 = .ok (.iload_n 0, 1) := by decide +kernel
theorem dX8_refused_4 : decode cX8_refused 4 = .ok (.i2l, 1) := by decide +kernel
theorem dX8_refused_5 : decode cX8_refused 5 = .ok (.lsub, 1) := by decide +kernel
theorem dX8_refused_6 : decode cX8_refused 6 = .ok (.lreturn, 1) := by decide +kernel
theorem dX8_found_0 : decode cX8_found 0 = .ok (.aload_n 0, 1) := by decide +kernel
theorem dX8_found_1 : decode cX8_found 1 = .ok (.iload_n 1, 1) := by decide +kernel
theorem dX8_found_2 : decode cX8_found 2 = .ok (.putfield 60, 3) := by decide +kernel
theorem dX8_found_5 : decode cX8_found 5 = .ok (.bipush (-10), 2) := by decide +kernel
theorem dX8_found_7 : decode cX8_found 7 = .ok (.iload_n 1, 1) := by decide +kernel
theorem dX8_found_8 : decode cX8_found 8 = .ok (.isub, 1) := by decide +kernel
theorem dX8_found_9 : decode cX8_found 9 = .ok (.ireturn, 1) := by decide +kernel
theorem dX8_refusalOfItem_0 : decode cX8_refusalOfItem 0 = .ok (.iload_n 1, 1) := by decide +kernel
theorem dX8_refusalOfItem_1 : decode cX8_refusalOfItem 1 = .ok (.iconst 4, 1) := by decide +kernel
theorem dX8_refusalOfItem_2 : decode cX8_refusalOfItem 2 = .ok (.invokestatic 66, 3) := by decide +kernel
theorem dX8_refusalOfItem_5 : decode cX8_refusalOfItem 5 = .ok (.ifCond .eq 11, 3) := by decide +kernel
theorem dX8_refusalOfItem_8 : decode cX8_refusalOfItem 8 = .ok (.iload_n 2, 1) := by decide +kernel
theorem dX8_refusalOfItem_9 : decode cX8_refusalOfItem 9 = .ok (.iconst 3, 1) := by decide +kernel
theorem dX8_refusalOfItem_10 : decode cX8_refusalOfItem 10 = .ok (.invokestatic 66, 3) := by decide +kernel
theorem dX8_refusalOfItem_13 : decode cX8_refusalOfItem 13 = .ok (.ifCond .ne 6, 3) := by decide +kernel
theorem dX8_refusalOfItem_16 : decode cX8_refusalOfItem 16 = .ok (.bipush (-2), 2) := by decide +kernel
theorem dX8_refusalOfItem_18 : decode cX8_refusalOfItem 18 = .ok (.ireturn, 1) := by decide +kernel
theorem dX8_refusalOfItem_19 : decode cX8_refusalOfItem 19 = .ok (.aload_n 0, 1) := by decide +kernel
theorem dX8_refusalOfItem_20 : decode cX8_refusalOfItem 20 = .ok (.getfield 56, 3) := by decide +kernel
theorem dX8_refusalOfItem_23 : decode cX8_refusalOfItem 23 = .ok (.iload_n 1, 1) := by decide +kernel
theorem dX8_refusalOfItem_24 : decode cX8_refusalOfItem 24 = .ok (.aaload, 1) := by decide +kernel
theorem dX8_refusalOfItem_25 : decode cX8_refusalOfItem 25 = .ok (.getfield 319, 3) := by decide +kernel
theorem dX8_refusalOfItem_28 : decode cX8_refusalOfItem 28 = .ok (.ifCond .eq 9, 3) := by decide +kernel
theorem dX8_refusalOfItem_31 : decode cX8_refusalOfItem 31 = .ok (.aload_n 0, 1) := by decide +kernel
theorem dX8_refusalOfItem_32 : decode cX8_refusalOfItem 32 = .ok (.iconst 1, 1) := by decide +kernel
theorem dX8_refusalOfItem_33 : decode cX8_refusalOfItem 33 = .ok (.invokevirtual 312, 3) := by decide +kernel
theorem dX8_refusalOfItem_36 : decode cX8_refusalOfItem 36 = .ok (.ireturn, 1) := by decide +kernel
theorem dX8_refusalOfItem_37 : decode cX8_refusalOfItem 37 = .ok (.aload_n 0, 1) := by decide +kernel
theorem dX8_refusalOfItem_38 : decode cX8_refusalOfItem 38 = .ok (.getfield 56, 3) := by decide +kernel
theorem dX8_refusalOfItem_41 : decode cX8_refusalOfItem 41 = .ok (.iload_n 1, 1) := by decide +kernel
theorem dX8_refusalOfItem_42 : decode cX8_refusalOfItem 42 = .ok (.aaload, 1) := by decide +kernel
theorem dX8_refusalOfItem_43 : decode cX8_refusalOfItem 43 = .ok (.getfield 334, 3) := by decide +kernel
theorem dX8_refusalOfItem_46 : decode cX8_refusalOfItem 46 = .ok (.iload_n 2, 1) := by decide +kernel
theorem dX8_refusalOfItem_47 : decode cX8_refusalOfItem 47 = .ok (.if_icmp .eq 9, 3) := by decide +kernel
theorem dX8_refusalOfItem_50 : decode cX8_refusalOfItem 50 = .ok (.aload_n 0, 1) := by decide +kernel
theorem dX8_refusalOfItem_51 : decode cX8_refusalOfItem 51 = .ok (.iconst 3, 1) := by decide +kernel
theorem dX8_refusalOfItem_52 : decode cX8_refusalOfItem 52 = .ok (.invokevirtual 312, 3) := by decide +kernel
theorem dX8_refusalOfItem_55 : decode cX8_refusalOfItem 55 = .ok (.ireturn, 1) := by decide +kernel
theorem dX8_refusalOfItem_56 : decode cX8_refusalOfItem 56 = .ok (.iload_n 3, 1) := by decide +kernel
theorem dX8_refusalOfItem_57 : decode cX8_refusalOfItem 57 = .ok (.aload_n 0, 1) := by decide +kernel
theorem dX8_refusalOfItem_58 : decode cX8_refusalOfItem 58 = .ok (.getfield 56, 3) := by decide +kernel
theorem dX8_refusalOfItem_61 : decode cX8_refusalOfItem 61 = .ok (.iload_n 1, 1) := by decide +kernel
theorem dX8_refusalOfItem_62 : decode cX8_refusalOfItem 62 = .ok (.aaload, 1) := by decide +kernel
theorem dX8_refusalOfItem_63 : decode cX8_refusalOfItem 63 = .ok (.getfield 323, 3) := by decide +kernel
theorem dX8_refusalOfItem_66 : decode cX8_refusalOfItem 66 = .ok (.invokestatic 66, 3) := by decide +kernel
theorem dX8_refusalOfItem_69 : decode cX8_refusalOfItem 69 = .ok (.ifCond .eq 7, 3) := by decide +kernel
theorem dX8_refusalOfItem_72 : decode cX8_refusalOfItem 72 = .ok (.iconst 0, 1) := by decide +kernel
theorem dX8_refusalOfItem_73 : decode cX8_refusalOfItem 73 = .ok (.goto 8, 3) := by decide +kernel
theorem dX8_refusalOfItem_76 : decode cX8_refusalOfItem 76 = .ok (.aload_n 0, 1) := by decide +kernel
theorem dX8_refusalOfItem_77 : decode cX8_refusalOfItem 77 = .ok (.iconst 2, 1) := by decide +kernel
theorem dX8_refusalOfItem_78 : decode cX8_refusalOfItem 78 = .ok (.invokevirtual 312, 3) := by decide +kernel
theorem dX8_refusalOfItem_81 : decode cX8_refusalOfItem 81 = .ok (.ireturn, 1) := by decide +kernel
theorem dX8_within_0 : decode cX8_within 0 = .ok (.iload_n 1, 1) := by decide +kernel
theorem dX8_within_1 : decode cX8_within 1 = .ok (.iload_n 0, 1) := by decide +kernel
theorem dX8_within_2 : decode cX8_within 2 = .ok (.if_icmp .gt 12, 3) := by decide +kernel
theorem dX8_within_5 : decode cX8_within 5 = .ok (.iload_n 0, 1) := by decide +kernel
theorem dX8_within_6 : decode cX8_within 6 = .ok (.iload_n 2, 1) := by decide +kernel
theorem dX8_within_7 : decode cX8_within 7 = .ok (.if_icmp .gt 7, 3) := by decide +kernel
theorem dX8_within_10 : decode cX8_within 10 = .ok (.iconst 1, 1) := by decide +kernel
theorem dX8_within_11 : decode cX8_within 11 = .ok (.goto 4, 3) := by decide +kernel
theorem dX8_within_14 : decode cX8_within 14 = .ok (.iconst 0, 1) := by decide +kernel
theorem dX8_within_15 : decode cX8_within 15 = .ok (.ireturn, 1) := by decide +kernel
theorem dX8_below_0 : decode cX8_below 0 = .ok (.iconst 0, 1) := by decide +kernel
theorem dX8_below_1 : decode cX8_below 1 = .ok (.iload_n 0, 1) := by decide +kernel
theorem dX8_below_2 : decode cX8_below 2 = .ok (.if_icmp .gt 12, 3) := by decide +kernel
theorem dX8_below_5 : decode cX8_below 5 = .ok (.iload_n 0, 1) := by decide +kernel
theorem dX8_below_6 : decode cX8_below 6 = .ok (.iload_n 1, 1) := by decide +kernel
theorem dX8_below_7 : decode cX8_below 7 = .ok (.if_icmp .ge 7, 3) := by decide +kernel
theorem dX8_below_10 : decode cX8_below 10 = .ok (.iconst 1, 1) := by decide +kernel
theorem dX8_below_11 : decode cX8_below 11 = .ok (.goto 4, 3) := by decide +kernel
theorem dX8_below_14 : decode cX8_below 14 = .ok (.iconst 0, 1) := by decide +kernel
theorem dX8_below_15 : decode cX8_below 15 = .ok (.ireturn, 1) := by decide +kernel
theorem dX8_isGrade_0 : decode cX8_isGrade 0 = .ok (.iload_n 0, 1) := by decide +kernel
theorem dX8_isGrade_1 : decode cX8_isGrade 1 = .ok (.iconst 1, 1) := by decide +kernel
theorem dX8_isGrade_2 : decode cX8_isGrade 2 = .ok (.bipush 9, 2) := by decide +kernel
theorem dX8_isGrade_4 : decode cX8_isGrade 4 = .ok (.invokestatic 109, 3) := by decide +kernel
theorem dX8_isGrade_7 : decode cX8_isGrade 7 = .ok (.ireturn, 1) := by decide +kernel
theorem dX8_isLine_0 : decode cX8_isLine 0 = .ok (.iload_n 0, 1) := by decide +kernel
theorem dX8_isLine_1 : decode cX8_isLine 1 = .ok (.iconst 2, 1) := by decide +kernel
theorem dX8_isLine_2 : decode cX8_isLine 2 = .ok (.invokestatic 66, 3) := by decide +kernel
theorem dX8_isLine_5 : decode cX8_isLine 5 = .ok (.ifCond .eq 24, 3) := by decide +kernel
theorem dX8_isLine_8 : decode cX8_isLine 8 = .ok (.iload_n 1, 1) := by decide +kernel
theorem dX8_isLine_9 : decode cX8_isLine 9 = .ok (.iconst 4, 1) := by decide +kernel
theorem dX8_isLine_10 : decode cX8_isLine 10 = .ok (.invokestatic 66, 3) := by decide +kernel
theorem dX8_isLine_13 : decode cX8_isLine 13 = .ok (.ifCond .eq 16, 3) := by decide +kernel
theorem dX8_isLine_16 : decode cX8_isLine 16 = .ok (.iload_n 2, 1) := by decide +kernel
theorem dX8_isLine_17 : decode cX8_isLine 17 = .ok (.bipush 6, 2) := by decide +kernel
theorem dX8_isLine_19 : decode cX8_isLine 19 = .ok (.invokestatic 66, 3) := by decide +kernel
theorem dX8_isLine_22 : decode cX8_isLine 22 = .ok (.ifCond .eq 7, 3) := by decide +kernel
theorem dX8_isLine_25 : decode cX8_isLine 25 = .ok (.iconst 1, 1) := by decide +kernel
theorem dX8_isLine_26 : decode cX8_isLine 26 = .ok (.goto 4, 3) := by decide +kernel
theorem dX8_isLine_29 : decode cX8_isLine 29 = .ok (.iconst 0, 1) := by decide +kernel
theorem dX8_isLine_30 : decode cX8_isLine 30 = .ok (.ireturn, 1) := by decide +kernel
theorem dX8_isBalance_0 : decode cX8_isBalance 0 = .ok (.iload_n 0, 1) := by decide +kernel
theorem dX8_isBalance_1 : decode cX8_isBalance 1 = .ok (.iconst 2, 1) := by decide +kernel
theorem dX8_isBalance_2 : decode cX8_isBalance 2 = .ok (.invokestatic 66, 3) := by decide +kernel
theorem dX8_isBalance_5 : decode cX8_isBalance 5 = .ok (.ifCond .eq 24, 3) := by decide +kernel
theorem dX8_isBalance_8 : decode cX8_isBalance 8 = .ok (.iload_n 1, 1) := by decide +kernel
theorem dX8_isBalance_9 : decode cX8_isBalance 9 = .ok (.iconst 4, 1) := by decide +kernel
theorem dX8_isBalance_10 : decode cX8_isBalance 10 = .ok (.invokestatic 66, 3) := by decide +kernel
theorem dX8_isBalance_13 : decode cX8_isBalance 13 = .ok (.ifCond .eq 16, 3) := by decide +kernel
theorem dX8_isBalance_16 : decode cX8_isBalance 16 = .ok (.iload_n 2, 1) := by decide +kernel
theorem dX8_isBalance_17 : decode cX8_isBalance 17 = .ok (.bipush 12, 2) := by decide +kernel
theorem dX8_isBalance_19 : decode cX8_isBalance 19 = .ok (.invokestatic 66, 3) := by decide +kernel
theorem dX8_isBalance_22 : decode cX8_isBalance 22 = .ok (.ifCond .eq 7, 3) := by decide +kernel
theorem dX8_isBalance_25 : decode cX8_isBalance 25 = .ok (.iconst 1, 1) := by decide +kernel
theorem dX8_isBalance_26 : decode cX8_isBalance 26 = .ok (.goto 4, 3) := by decide +kernel
theorem dX8_isBalance_29 : decode cX8_isBalance 29 = .ok (.iconst 0, 1) := by decide +kernel
theorem dX8_isBalance_30 : decode cX8_isBalance 30 = .ok (.ireturn, 1) := by decide +kernel
theorem dX8_isSeries_0 : decode cX8_isSeries 0 = .ok (.iload_n 0, 1) := by decide +kernel
theorem dX8_isSeries_1 : decode cX8_isSeries 1 = .ok (.iconst (-1), 1) := by decide +kernel
theorem dX8_isSeries_2 : decode cX8_isSeries 2 = .ok (.iconst 3, 1) := by decide +kernel
theorem dX8_isSeries_3 : decode cX8_isSeries 3 = .ok (.invokestatic 109, 3) := by decide +kernel
theorem dX8_isSeries_6 : decode cX8_isSeries 6 = .ok (.ifCond .eq 16, 3) := by decide +kernel
theorem dX8_isSeries_9 : decode cX8_isSeries 9 = .ok (.iload_n 1, 1) := by decide +kernel
theorem dX8_isSeries_10 : decode cX8_isSeries 10 = .ok (.bipush 6, 2) := by decide +kernel
theorem dX8_isSeries_12 : decode cX8_isSeries 12 = .ok (.invokestatic 66, 3) := by decide +kernel
theorem dX8_isSeries_15 : decode cX8_isSeries 15 = .ok (.ifCond .eq 7, 3) := by decide +kernel
theorem dX8_isSeries_18 : decode cX8_isSeries 18 = .ok (.iconst 1, 1) := by decide +kernel
theorem dX8_isSeries_19 : decode cX8_isSeries 19 = .ok (.goto 4, 3) := by decide +kernel
theorem dX8_isSeries_22 : decode cX8_isSeries 22 = .ok (.iconst 0, 1) := by decide +kernel
theorem dX8_isSeries_23 : decode cX8_isSeries 23 = .ok (.ireturn, 1) := by decide +kernel
theorem dX8_isAccount_0 : decode cX8_isAccount 0 = .ok (.iload_n 0, 1) := by decide +kernel
theorem dX8_isAccount_1 : decode cX8_isAccount 1 = .ok (.bipush 6, 2) := by decide +kernel
theorem dX8_isAccount_3 : decode cX8_isAccount 3 = .ok (.invokestatic 66, 3) := by decide +kernel
theorem dX8_isAccount_6 : decode cX8_isAccount 6 = .ok (.ifCond .eq 16, 3) := by decide +kernel
theorem dX8_isAccount_9 : decode cX8_isAccount 9 = .ok (.iload_n 1, 1) := by decide +kernel
theorem dX8_isAccount_10 : decode cX8_isAccount 10 = .ok (.bipush 12, 2) := by decide +kernel
theorem dX8_isAccount_12 : decode cX8_isAccount 12 = .ok (.invokestatic 66, 3) := by decide +kernel
theorem dX8_isAccount_15 : decode cX8_isAccount 15 = .ok (.ifCond .eq 7, 3) := by decide +kernel
theorem dX8_isAccount_18 : decode cX8_isAccount 18 = .ok (.iconst 1, 1) := by decide +kernel
theorem dX8_isAccount_19 : decode cX8_isAccount 19 = .ok (.goto 4, 3) := by decide +kernel
theorem dX8_isAccount_22 : decode cX8_isAccount 22 = .ok (.iconst 0, 1) := by decide +kernel
theorem dX8_isAccount_23 : decode cX8_isAccount 23 = .ok (.ireturn, 1) := by decide +kernel
theorem dX8_isRevision_0 : decode cX8_isRevision 0 = .ok (.iload_n 0, 1) := by decide +kernel
theorem dX8_isRevision_1 : decode cX8_isRevision 1 = .ok (.sipush 720, 3) := by decide +kernel
theorem dX8_isRevision_4 : decode cX8_isRevision 4 = .ok (.invokestatic 66, 3) := by decide +kernel
theorem dX8_isRevision_7 : decode cX8_isRevision 7 = .ok (.ifCond .eq 30, 3) := by decide +kernel
theorem dX8_isRevision_10 : decode cX8_isRevision 10 = .ok (.iload_n 1, 1) := by decide +kernel
theorem dX8_isRevision_11 : decode cX8_isRevision 11 = .ok (.bipush 10, 2) := by decide +kernel
theorem dX8_isRevision_13 : decode cX8_isRevision 13 = .ok (.invokestatic 66, 3) := by decide +kernel
theorem dX8_isRevision_16 : decode cX8_isRevision 16 = .ok (.ifCond .eq 21, 3) := by decide +kernel
theorem dX8_isRevision_19 : decode cX8_isRevision 19 = .ok (.iload_n 2, 1) := by decide +kernel
theorem dX8_isRevision_20 : decode cX8_isRevision 20 = .ok (.bipush 10, 2) := by decide +kernel
theorem dX8_isRevision_22 : decode cX8_isRevision 22 = .ok (.invokestatic 66, 3) := by decide +kernel
theorem dX8_isRevision_25 : decode cX8_isRevision 25 = .ok (.ifCond .eq 12, 3) := by decide +kernel
theorem dX8_isRevision_28 : decode cX8_isRevision 28 = .ok (.iload_n 1, 1) := by decide +kernel
theorem dX8_isRevision_29 : decode cX8_isRevision 29 = .ok (.iload_n 2, 1) := by decide +kernel
theorem dX8_isRevision_30 : decode cX8_isRevision 30 = .ok (.if_icmp .ge 7, 3) := by decide +kernel
theorem dX8_isRevision_33 : decode cX8_isRevision 33 = .ok (.iconst 1, 1) := by decide +kernel
theorem dX8_isRevision_34 : decode cX8_isRevision 34 = .ok (.goto 4, 3) := by decide +kernel
theorem dX8_isRevision_37 : decode cX8_isRevision 37 = .ok (.iconst 0, 1) := by decide +kernel
theorem dX8_isRevision_38 : decode cX8_isRevision 38 = .ok (.ireturn, 1) := by decide +kernel
theorem dX8_lineOf_0 : decode cX8_lineOf 0 = .ok (.iload_n 0, 1) := by decide +kernel
theorem dX8_lineOf_1 : decode cX8_lineOf 1 = .ok (.iconst 4, 1) := by decide +kernel
theorem dX8_lineOf_2 : decode cX8_lineOf 2 = .ok (.imul, 1) := by decide +kernel
theorem dX8_lineOf_3 : decode cX8_lineOf 3 = .ok (.iload_n 1, 1) := by decide +kernel
theorem dX8_lineOf_4 : decode cX8_lineOf 4 = .ok (.iadd, 1) := by decide +kernel
theorem dX8_lineOf_5 : decode cX8_lineOf 5 = .ok (.bipush 6, 2) := by decide +kernel
theorem dX8_lineOf_7 : decode cX8_lineOf 7 = .ok (.imul, 1) := by decide +kernel
theorem dX8_lineOf_8 : decode cX8_lineOf 8 = .ok (.iload_n 2, 1) := by decide +kernel
theorem dX8_lineOf_9 : decode cX8_lineOf 9 = .ok (.iadd, 1) := by decide +kernel
theorem dX8_lineOf_10 : decode cX8_lineOf 10 = .ok (.ireturn, 1) := by decide +kernel
theorem dX8_cellCode_0 : decode cX8_cellCode 0 = .ok (.iload_n 0, 1) := by decide +kernel
theorem dX8_cellCode_1 : decode cX8_cellCode 1 = .ok (.iconst 4, 1) := by decide +kernel
theorem dX8_cellCode_2 : decode cX8_cellCode 2 = .ok (.imul, 1) := by decide +kernel
theorem dX8_cellCode_3 : decode cX8_cellCode 3 = .ok (.iload_n 1, 1) := by decide +kernel
theorem dX8_cellCode_4 : decode cX8_cellCode 4 = .ok (.iadd, 1) := by decide +kernel
theorem dX8_cellCode_5 : decode cX8_cellCode 5 = .ok (.bipush 6, 2) := by decide +kernel
theorem dX8_cellCode_7 : decode cX8_cellCode 7 = .ok (.imul, 1) := by decide +kernel
theorem dX8_cellCode_8 : decode cX8_cellCode 8 = .ok (.iload_n 2, 1) := by decide +kernel
theorem dX8_cellCode_9 : decode cX8_cellCode 9 = .ok (.iadd, 1) := by decide +kernel
theorem dX8_cellCode_10 : decode cX8_cellCode 10 = .ok (.bipush 12, 2) := by decide +kernel
theorem dX8_cellCode_12 : decode cX8_cellCode 12 = .ok (.imul, 1) := by decide +kernel
theorem dX8_cellCode_13 : decode cX8_cellCode 13 = .ok (.iload_n 3, 1) := by decide +kernel
theorem dX8_cellCode_14 : decode cX8_cellCode 14 = .ok (.iadd, 1) := by decide +kernel
theorem dX8_cellCode_15 : decode cX8_cellCode 15 = .ok (.ireturn, 1) := by decide +kernel
theorem dX8_annualCode_0 : decode cX8_annualCode 0 = .ok (.sipush 576, 3) := by decide +kernel
theorem dX8_annualCode_3 : decode cX8_annualCode 3 = .ok (.iload_n 0, 1) := by decide +kernel
theorem dX8_annualCode_4 : decode cX8_annualCode 4 = .ok (.iconst 4, 1) := by decide +kernel
theorem dX8_annualCode_5 : decode cX8_annualCode 5 = .ok (.imul, 1) := by decide +kernel
theorem dX8_annualCode_6 : decode cX8_annualCode 6 = .ok (.iload_n 1, 1) := by decide +kernel
theorem dX8_annualCode_7 : decode cX8_annualCode 7 = .ok (.iadd, 1) := by decide +kernel
theorem dX8_annualCode_8 : decode cX8_annualCode 8 = .ok (.bipush 6, 2) := by decide +kernel
theorem dX8_annualCode_10 : decode cX8_annualCode 10 = .ok (.imul, 1) := by decide +kernel
theorem dX8_annualCode_11 : decode cX8_annualCode 11 = .ok (.iload_n 2, 1) := by decide +kernel
theorem dX8_annualCode_12 : decode cX8_annualCode 12 = .ok (.iadd, 1) := by decide +kernel
theorem dX8_annualCode_13 : decode cX8_annualCode 13 = .ok (.iconst 3, 1) := by decide +kernel
theorem dX8_annualCode_14 : decode cX8_annualCode 14 = .ok (.imul, 1) := by decide +kernel
theorem dX8_annualCode_15 : decode cX8_annualCode 15 = .ok (.iadd, 1) := by decide +kernel
theorem dX8_annualCode_16 : decode cX8_annualCode 16 = .ok (.iload_n 3, 1) := by decide +kernel
theorem dX8_annualCode_17 : decode cX8_annualCode 17 = .ok (.iadd, 1) := by decide +kernel
theorem dX8_annualCode_18 : decode cX8_annualCode 18 = .ok (.ireturn, 1) := by decide +kernel
theorem dX8_isAnnual_0 : decode cX8_isAnnual 0 = .ok (.iload_n 0, 1) := by decide +kernel
theorem dX8_isAnnual_1 : decode cX8_isAnnual 1 = .ok (.sipush 576, 3) := by decide +kernel
theorem dX8_isAnnual_4 : decode cX8_isAnnual 4 = .ok (.if_icmp .lt 7, 3) := by decide +kernel
theorem dX8_isAnnual_7 : decode cX8_isAnnual 7 = .ok (.iconst 1, 1) := by decide +kernel
theorem dX8_isAnnual_8 : decode cX8_isAnnual 8 = .ok (.goto 4, 3) := by decide +kernel
theorem dX8_isAnnual_11 : decode cX8_isAnnual 11 = .ok (.iconst 0, 1) := by decide +kernel
theorem dX8_isAnnual_12 : decode cX8_isAnnual 12 = .ok (.ireturn, 1) := by decide +kernel
theorem dX8_lineOfCode_0 : decode cX8_lineOfCode 0 = .ok (.iload_n 0, 1) := by decide +kernel
theorem dX8_lineOfCode_1 : decode cX8_lineOfCode 1 = .ok (.invokestatic 105, 3) := by decide +kernel
theorem dX8_lineOfCode_4 : decode cX8_lineOfCode 4 = .ok (.ifCond .eq 13, 3) := by decide +kernel
theorem dX8_lineOfCode_7 : decode cX8_lineOfCode 7 = .ok (.iload_n 0, 1) := by decide +kernel
theorem dX8_lineOfCode_8 : decode cX8_lineOfCode 8 = .ok (.sipush 576, 3) := by decide +kernel
theorem dX8_lineOfCode_11 : decode cX8_lineOfCode 11 = .ok (.isub, 1) := by decide +kernel
theorem dX8_lineOfCode_12 : decode cX8_lineOfCode 12 = .ok (.iconst 3, 1) := by decide +kernel
theorem dX8_lineOfCode_13 : decode cX8_lineOfCode 13 = .ok (.idiv, 1) := by decide +kernel
theorem dX8_lineOfCode_14 : decode cX8_lineOfCode 14 = .ok (.goto 7, 3) := by decide +kernel
theorem dX8_lineOfCode_17 : decode cX8_lineOfCode 17 = .ok (.iload_n 0, 1) := by decide +kernel
theorem dX8_lineOfCode_18 : decode cX8_lineOfCode 18 = .ok (.bipush 12, 2) := by decide +kernel
theorem dX8_lineOfCode_20 : decode cX8_lineOfCode 20 = .ok (.idiv, 1) := by decide +kernel
theorem dX8_lineOfCode_21 : decode cX8_lineOfCode 21 = .ok (.ireturn, 1) := by decide +kernel
theorem dX8_landOf_0 : decode cX8_landOf 0 = .ok (.iload_n 0, 1) := by decide +kernel
theorem dX8_landOf_1 : decode cX8_landOf 1 = .ok (.invokestatic 374, 3) := by decide +kernel
theorem dX8_landOf_4 : decode cX8_landOf 4 = .ok (.bipush 24, 2) := by decide +kernel
theorem dX8_landOf_6 : decode cX8_landOf 6 = .ok (.idiv, 1) := by decide +kernel
theorem dX8_landOf_7 : decode cX8_landOf 7 = .ok (.ireturn, 1) := by decide +kernel
theorem dX8_productOf_0 : decode cX8_productOf 0 = .ok (.iload_n 0, 1) := by decide +kernel
theorem dX8_productOf_1 : decode cX8_productOf 1 = .ok (.invokestatic 374, 3) := by decide +kernel
theorem dX8_productOf_4 : decode cX8_productOf 4 = .ok (.bipush 6, 2) := by decide +kernel
theorem dX8_productOf_6 : decode cX8_productOf 6 = .ok (.idiv, 1) := by decide +kernel
theorem dX8_productOf_7 : decode cX8_productOf 7 = .ok (.iconst 4, 1) := by decide +kernel
theorem dX8_productOf_8 : decode cX8_productOf 8 = .ok (.irem, 1) := by decide +kernel
theorem dX8_productOf_9 : decode cX8_productOf 9 = .ok (.ireturn, 1) := by decide +kernel
theorem dX8_columnOf_0 : decode cX8_columnOf 0 = .ok (.iload_n 0, 1) := by decide +kernel
theorem dX8_columnOf_1 : decode cX8_columnOf 1 = .ok (.invokestatic 374, 3) := by decide +kernel
theorem dX8_columnOf_4 : decode cX8_columnOf 4 = .ok (.bipush 6, 2) := by decide +kernel
theorem dX8_columnOf_6 : decode cX8_columnOf 6 = .ok (.irem, 1) := by decide +kernel
theorem dX8_columnOf_7 : decode cX8_columnOf 7 = .ok (.ireturn, 1) := by decide +kernel
theorem dX8_periodOf_0 : decode cX8_periodOf 0 = .ok (.iload_n 0, 1) := by decide +kernel
theorem dX8_periodOf_1 : decode cX8_periodOf 1 = .ok (.invokestatic 105, 3) := by decide +kernel
theorem dX8_periodOf_4 : decode cX8_periodOf 4 = .ok (.ifCond .eq 13, 3) := by decide +kernel
theorem dX8_periodOf_7 : decode cX8_periodOf 7 = .ok (.iload_n 0, 1) := by decide +kernel
theorem dX8_periodOf_8 : decode cX8_periodOf 8 = .ok (.sipush 576, 3) := by decide +kernel
theorem dX8_periodOf_11 : decode cX8_periodOf 11 = .ok (.isub, 1) := by decide +kernel
theorem dX8_periodOf_12 : decode cX8_periodOf 12 = .ok (.iconst 3, 1) := by decide +kernel
theorem dX8_periodOf_13 : decode cX8_periodOf 13 = .ok (.irem, 1) := by decide +kernel
theorem dX8_periodOf_14 : decode cX8_periodOf 14 = .ok (.goto 7, 3) := by decide +kernel
theorem dX8_periodOf_17 : decode cX8_periodOf 17 = .ok (.iload_n 0, 1) := by decide +kernel
theorem dX8_periodOf_18 : decode cX8_periodOf 18 = .ok (.bipush 12, 2) := by decide +kernel
theorem dX8_periodOf_20 : decode cX8_periodOf 20 = .ok (.irem, 1) := by decide +kernel
theorem dX8_periodOf_21 : decode cX8_periodOf 21 = .ok (.ireturn, 1) := by decide +kernel
theorem dX8_yearOf_0 : decode cX8_yearOf 0 = .ok (.iload_n 0, 1) := by decide +kernel
theorem dX8_yearOf_1 : decode cX8_yearOf 1 = .ok (.invokestatic 105, 3) := by decide +kernel
theorem dX8_yearOf_4 : decode cX8_yearOf 4 = .ok (.ifCond .eq 10, 3) := by decide +kernel
theorem dX8_yearOf_7 : decode cX8_yearOf 7 = .ok (.iload_n 0, 1) := by decide +kernel
theorem dX8_yearOf_8 : decode cX8_yearOf 8 = .ok (.invokestatic 102, 3) := by decide +kernel
theorem dX8_yearOf_11 : decode cX8_yearOf 11 = .ok (.goto 9, 3) := by decide +kernel
theorem dX8_yearOf_14 : decode cX8_yearOf 14 = .ok (.iload_n 0, 1) := by decide +kernel
theorem dX8_yearOf_15 : decode cX8_yearOf 15 = .ok (.invokestatic 102, 3) := by decide +kernel
theorem dX8_yearOf_18 : decode cX8_yearOf 18 = .ok (.iconst 4, 1) := by decide +kernel
theorem dX8_yearOf_19 : decode cX8_yearOf 19 = .ok (.idiv, 1) := by decide +kernel
theorem dX8_yearOf_20 : decode cX8_yearOf 20 = .ok (.ireturn, 1) := by decide +kernel
theorem dX8_isOneBlock_0 : decode cX8_isOneBlock 0 = .ok (.iload_n 0, 1) := by decide +kernel
theorem dX8_isOneBlock_1 : decode cX8_isOneBlock 1 = .ok (.invokestatic 92, 3) := by decide +kernel
theorem dX8_isOneBlock_4 : decode cX8_isOneBlock 4 = .ok (.iload_n 1, 1) := by decide +kernel
theorem dX8_isOneBlock_5 : decode cX8_isOneBlock 5 = .ok (.invokestatic 92, 3) := by decide +kernel
theorem dX8_isOneBlock_8 : decode cX8_isOneBlock 8 = .ok (.if_icmp .ne 29, 3) := by decide +kernel
theorem dX8_isOneBlock_11 : decode cX8_isOneBlock 11 = .ok (.iload_n 0, 1) := by decide +kernel
theorem dX8_isOneBlock_12 : decode cX8_isOneBlock 12 = .ok (.invokestatic 96, 3) := by decide +kernel
theorem dX8_isOneBlock_15 : decode cX8_isOneBlock 15 = .ok (.iload_n 1, 1) := by decide +kernel
theorem dX8_isOneBlock_16 : decode cX8_isOneBlock 16 = .ok (.invokestatic 96, 3) := by decide +kernel
theorem dX8_isOneBlock_19 : decode cX8_isOneBlock 19 = .ok (.if_icmp .ne 18, 3) := by decide +kernel
theorem dX8_isOneBlock_22 : decode cX8_isOneBlock 22 = .ok (.iload_n 0, 1) := by decide +kernel
theorem dX8_isOneBlock_23 : decode cX8_isOneBlock 23 = .ok (.invokestatic 115, 3) := by decide +kernel
theorem dX8_isOneBlock_26 : decode cX8_isOneBlock 26 = .ok (.iload_n 1, 1) := by decide +kernel
theorem dX8_isOneBlock_27 : decode cX8_isOneBlock 27 = .ok (.invokestatic 115, 3) := by decide +kernel
theorem dX8_isOneBlock_30 : decode cX8_isOneBlock 30 = .ok (.if_icmp .ne 7, 3) := by decide +kernel
theorem dX8_isOneBlock_33 : decode cX8_isOneBlock 33 = .ok (.iconst 1, 1) := by decide +kernel
theorem dX8_isOneBlock_34 : decode cX8_isOneBlock 34 = .ok (.goto 4, 3) := by decide +kernel
theorem dX8_isOneBlock_37 : decode cX8_isOneBlock 37 = .ok (.iconst 0, 1) := by decide +kernel
theorem dX8_isOneBlock_38 : decode cX8_isOneBlock 38 = .ok (.ireturn, 1) := by decide +kernel
theorem dX8_firstStep_0 : decode cX8_firstStep 0 = .ok (.iload_n 0, 1) := by decide +kernel
theorem dX8_firstStep_1 : decode cX8_firstStep 1 = .ok (.iconst 1, 1) := by decide +kernel
theorem dX8_firstStep_2 : decode cX8_firstStep 2 = .ok (.iadd, 1) := by decide +kernel
theorem dX8_firstStep_3 : decode cX8_firstStep 3 = .ok (.bipush 10, 2) := by decide +kernel
theorem dX8_firstStep_5 : decode cX8_firstStep 5 = .ok (.imul, 1) := by decide +kernel
theorem dX8_firstStep_6 : decode cX8_firstStep 6 = .ok (.ireturn, 1) := by decide +kernel
theorem dX8_howManyTrue_0 : decode cX8_howManyTrue 0 = .ok (.iconst 0, 1) := by decide +kernel
theorem dX8_howManyTrue_1 : decode cX8_howManyTrue 1 = .ok (.istore_n 1, 1) := by decide +kernel
theorem dX8_howManyTrue_2 : decode cX8_howManyTrue 2 = .ok (.aload_n 0, 1) := by decide +kernel
theorem dX8_howManyTrue_3 : decode cX8_howManyTrue 3 = .ok (.astore_n 2, 1) := by decide +kernel
theorem dX8_howManyTrue_4 : decode cX8_howManyTrue 4 = .ok (.aload_n 2, 1) := by decide +kernel
theorem dX8_howManyTrue_5 : decode cX8_howManyTrue 5 = .ok (.arraylength, 1) := by decide +kernel
theorem dX8_howManyTrue_6 : decode cX8_howManyTrue 6 = .ok (.istore_n 3, 1) := by decide +kernel
theorem dX8_howManyTrue_7 : decode cX8_howManyTrue 7 = .ok (.iconst 0, 1) := by decide +kernel
theorem dX8_howManyTrue_8 : decode cX8_howManyTrue 8 = .ok (.istore 4, 2) := by decide +kernel
theorem dX8_howManyTrue_10 : decode cX8_howManyTrue 10 = .ok (.iload 4, 2) := by decide +kernel
theorem dX8_howManyTrue_12 : decode cX8_howManyTrue 12 = .ok (.iload_n 3, 1) := by decide +kernel
theorem dX8_howManyTrue_13 : decode cX8_howManyTrue 13 = .ok (.if_icmp .ge 23, 3) := by decide +kernel
theorem dX8_howManyTrue_16 : decode cX8_howManyTrue 16 = .ok (.aload_n 2, 1) := by decide +kernel
theorem dX8_howManyTrue_17 : decode cX8_howManyTrue 17 = .ok (.iload 4, 2) := by decide +kernel
theorem dX8_howManyTrue_19 : decode cX8_howManyTrue 19 = .ok (.baload, 1) := by decide +kernel
theorem dX8_howManyTrue_20 : decode cX8_howManyTrue 20 = .ok (.istore 5, 2) := by decide +kernel
theorem dX8_howManyTrue_22 : decode cX8_howManyTrue 22 = .ok (.iload 5, 2) := by decide +kernel
theorem dX8_howManyTrue_24 : decode cX8_howManyTrue 24 = .ok (.ifCond .eq 6, 3) := by decide +kernel
theorem dX8_howManyTrue_27 : decode cX8_howManyTrue 27 = .ok (.iinc 1 1, 3) := by decide +kernel
theorem dX8_howManyTrue_30 : decode cX8_howManyTrue 30 = .ok (.iinc 4 1, 3) := by decide +kernel
theorem dX8_howManyTrue_33 : decode cX8_howManyTrue 33 = .ok (.goto (-23), 3) := by decide +kernel
theorem dX8_howManyTrue_36 : decode cX8_howManyTrue 36 = .ok (.iload_n 1, 1) := by decide +kernel
theorem dX8_howManyTrue_37 : decode cX8_howManyTrue 37 = .ok (.ireturn, 1) := by decide +kernel
theorem dX8_bytesOfLaws_0 : decode cX8_bytesOfLaws 0 = .ok (.iconst 0, 1) := by decide +kernel
theorem dX8_bytesOfLaws_1 : decode cX8_bytesOfLaws 1 = .ok (.istore_n 1, 1) := by decide +kernel
theorem dX8_bytesOfLaws_2 : decode cX8_bytesOfLaws 2 = .ok (.iconst 0, 1) := by decide +kernel
theorem dX8_bytesOfLaws_3 : decode cX8_bytesOfLaws 3 = .ok (.istore_n 2, 1) := by decide +kernel
theorem dX8_bytesOfLaws_4 : decode cX8_bytesOfLaws 4 = .ok (.iload_n 2, 1) := by decide +kernel
theorem dX8_bytesOfLaws_5 : decode cX8_bytesOfLaws 5 = .ok (.iconst 4, 1) := by decide +kernel
theorem dX8_bytesOfLaws_6 : decode cX8_bytesOfLaws 6 = .ok (.if_icmp .ge 21, 3) := by decide +kernel
theorem dX8_bytesOfLaws_9 : decode cX8_bytesOfLaws 9 = .ok (.iload_n 1, 1) := by decide +kernel
theorem dX8_bytesOfLaws_10 : decode cX8_bytesOfLaws 10 = .ok (.aload_n 0, 1) := by decide +kernel
theorem dX8_bytesOfLaws_11 : decode cX8_bytesOfLaws 11 = .ok (.getfield 50, 3) := by decide +kernel
theorem dX8_bytesOfLaws_14 : decode cX8_bytesOfLaws 14 = .ok (.iload_n 2, 1) := by decide +kernel
theorem dX8_bytesOfLaws_15 : decode cX8_bytesOfLaws 15 = .ok (.aaload, 1) := by decide +kernel
theorem dX8_bytesOfLaws_16 : decode cX8_bytesOfLaws 16 = .ok (.getfield 281, 3) := by decide +kernel
theorem dX8_bytesOfLaws_19 : decode cX8_bytesOfLaws 19 = .ok (.iadd, 1) := by decide +kernel
theorem dX8_bytesOfLaws_20 : decode cX8_bytesOfLaws 20 = .ok (.istore_n 1, 1) := by decide +kernel
theorem dX8_bytesOfLaws_21 : decode cX8_bytesOfLaws 21 = .ok (.iinc 2 1, 3) := by decide +kernel
theorem dX8_bytesOfLaws_24 : decode cX8_bytesOfLaws 24 = .ok (.goto (-20), 3) := by decide +kernel
theorem dX8_bytesOfLaws_27 : decode cX8_bytesOfLaws 27 = .ok (.iload_n 1, 1) := by decide +kernel
theorem dX8_bytesOfLaws_28 : decode cX8_bytesOfLaws 28 = .ok (.ireturn, 1) := by decide +kernel
theorem dJ9_floorDiv_f86c9_0 : decode cJ9_floorDiv_f86c9 0 = .ok (.lload_n 0, 1) := by decide +kernel
theorem dJ9_floorDiv_f86c9_1 : decode cJ9_floorDiv_f86c9 1 = .ok (.lload_n 2, 1) := by decide +kernel
theorem dJ9_floorDiv_f86c9_2 : decode cJ9_floorDiv_f86c9 2 = .ok (.ldiv, 1) := by decide +kernel
theorem dJ9_floorDiv_f86c9_3 : decode cJ9_floorDiv_f86c9 3 = .ok (.lstore 4, 2) := by decide +kernel
theorem dJ9_floorDiv_f86c9_5 : decode cJ9_floorDiv_f86c9 5 = .ok (.lload_n 0, 1) := by decide +kernel
theorem dJ9_floorDiv_f86c9_6 : decode cJ9_floorDiv_f86c9 6 = .ok (.lload_n 2, 1) := by decide +kernel
theorem dJ9_floorDiv_f86c9_7 : decode cJ9_floorDiv_f86c9 7 = .ok (.lxor, 1) := by decide +kernel
theorem dJ9_floorDiv_f86c9_8 : decode cJ9_floorDiv_f86c9 8 = .ok (.lconst 0, 1) := by decide +kernel
theorem dJ9_floorDiv_f86c9_9 : decode cJ9_floorDiv_f86c9 9 = .ok (.lcmp, 1) := by decide +kernel
theorem dJ9_floorDiv_f86c9_10 : decode cJ9_floorDiv_f86c9 10 = .ok (.ifCond .ge 17, 3) := by decide +kernel
theorem dJ9_floorDiv_f86c9_13 : decode cJ9_floorDiv_f86c9 13 = .ok (.lload 4, 2) := by decide +kernel
theorem dJ9_floorDiv_f86c9_15 : decode cJ9_floorDiv_f86c9 15 = .ok (.lload_n 2, 1) := by decide +kernel
theorem dJ9_floorDiv_f86c9_16 : decode cJ9_floorDiv_f86c9 16 = .ok (.lmul, 1) := by decide +kernel
theorem dJ9_floorDiv_f86c9_17 : decode cJ9_floorDiv_f86c9 17 = .ok (.lload_n 0, 1) := by decide +kernel
theorem dJ9_floorDiv_f86c9_18 : decode cJ9_floorDiv_f86c9 18 = .ok (.lcmp, 1) := by decide +kernel
theorem dJ9_floorDiv_f86c9_19 : decode cJ9_floorDiv_f86c9 19 = .ok (.ifCond .eq 8, 3) := by decide +kernel
theorem dJ9_floorDiv_f86c9_22 : decode cJ9_floorDiv_f86c9 22 = .ok (.lload 4, 2) := by decide +kernel
theorem dJ9_floorDiv_f86c9_24 : decode cJ9_floorDiv_f86c9 24 = .ok (.lconst 1, 1) := by decide +kernel
theorem dJ9_floorDiv_f86c9_25 : decode cJ9_floorDiv_f86c9 25 = .ok (.lsub, 1) := by decide +kernel
theorem dJ9_floorDiv_f86c9_26 : decode cJ9_floorDiv_f86c9 26 = .ok (.lreturn, 1) := by decide +kernel
theorem dJ9_floorDiv_f86c9_27 : decode cJ9_floorDiv_f86c9 27 = .ok (.lload 4, 2) := by decide +kernel
theorem dJ9_floorDiv_f86c9_29 : decode cJ9_floorDiv_f86c9 29 = .ok (.lreturn, 1) := by decide +kernel
theorem dJ9_floorMod_f86c9_0 : decode cJ9_floorMod_f86c9 0 = .ok (.lload_n 0, 1) := by decide +kernel
theorem dJ9_floorMod_f86c9_1 : decode cJ9_floorMod_f86c9 1 = .ok (.lload_n 2, 1) := by decide +kernel
theorem dJ9_floorMod_f86c9_2 : decode cJ9_floorMod_f86c9 2 = .ok (.lrem, 1) := by decide +kernel
theorem dJ9_floorMod_f86c9_3 : decode cJ9_floorMod_f86c9 3 = .ok (.lstore 4, 2) := by decide +kernel
theorem dJ9_floorMod_f86c9_5 : decode cJ9_floorMod_f86c9 5 = .ok (.lload_n 0, 1) := by decide +kernel
theorem dJ9_floorMod_f86c9_6 : decode cJ9_floorMod_f86c9 6 = .ok (.lload_n 2, 1) := by decide +kernel
theorem dJ9_floorMod_f86c9_7 : decode cJ9_floorMod_f86c9 7 = .ok (.lxor, 1) := by decide +kernel
theorem dJ9_floorMod_f86c9_8 : decode cJ9_floorMod_f86c9 8 = .ok (.lconst 0, 1) := by decide +kernel
theorem dJ9_floorMod_f86c9_9 : decode cJ9_floorMod_f86c9 9 = .ok (.lcmp, 1) := by decide +kernel
theorem dJ9_floorMod_f86c9_10 : decode cJ9_floorMod_f86c9 10 = .ok (.ifCond .ge 15, 3) := by decide +kernel
theorem dJ9_floorMod_f86c9_13 : decode cJ9_floorMod_f86c9 13 = .ok (.lload 4, 2) := by decide +kernel
theorem dJ9_floorMod_f86c9_15 : decode cJ9_floorMod_f86c9 15 = .ok (.lconst 0, 1) := by decide +kernel
theorem dJ9_floorMod_f86c9_16 : decode cJ9_floorMod_f86c9 16 = .ok (.lcmp, 1) := by decide +kernel
theorem dJ9_floorMod_f86c9_17 : decode cJ9_floorMod_f86c9 17 = .ok (.ifCond .eq 8, 3) := by decide +kernel
theorem dJ9_floorMod_f86c9_20 : decode cJ9_floorMod_f86c9 20 = .ok (.lload 4, 2) := by decide +kernel
theorem dJ9_floorMod_f86c9_22 : decode cJ9_floorMod_f86c9 22 = .ok (.lload_n 2, 1) := by decide +kernel
theorem dJ9_floorMod_f86c9_23 : decode cJ9_floorMod_f86c9 23 = .ok (.ladd, 1) := by decide +kernel
theorem dJ9_floorMod_f86c9_24 : decode cJ9_floorMod_f86c9 24 = .ok (.lreturn, 1) := by decide +kernel
theorem dJ9_floorMod_f86c9_25 : decode cJ9_floorMod_f86c9 25 = .ok (.lload 4, 2) := by decide +kernel
theorem dJ9_floorMod_f86c9_27 : decode cJ9_floorMod_f86c9 27 = .ok (.lreturn, 1) := by decide +kernel
theorem dJ9_abs_067f4_0 : decode cJ9_abs_067f4 0 = .ok (.lload_n 0, 1) := by decide +kernel
theorem dJ9_abs_067f4_1 : decode cJ9_abs_067f4 1 = .ok (.lconst 0, 1) := by decide +kernel
theorem dJ9_abs_067f4_2 : decode cJ9_abs_067f4 2 = .ok (.lcmp, 1) := by decide +kernel
theorem dJ9_abs_067f4_3 : decode cJ9_abs_067f4 3 = .ok (.ifCond .ge 8, 3) := by decide +kernel
theorem dJ9_abs_067f4_6 : decode cJ9_abs_067f4 6 = .ok (.lload_n 0, 1) := by decide +kernel
theorem dJ9_abs_067f4_7 : decode cJ9_abs_067f4 7 = .ok (.lneg, 1) := by decide +kernel
theorem dJ9_abs_067f4_8 : decode cJ9_abs_067f4 8 = .ok (.goto 4, 3) := by decide +kernel
theorem dJ9_abs_067f4_11 : decode cJ9_abs_067f4 11 = .ok (.lload_n 0, 1) := by decide +kernel
theorem dJ9_abs_067f4_12 : decode cJ9_abs_067f4 12 = .ok (.lreturn, 1) := by decide +kernel
theorem dJ9_max_7cf53_0 : decode cJ9_max_7cf53 0 = .ok (.iload_n 0, 1) := by decide +kernel
theorem dJ9_max_7cf53_1 : decode cJ9_max_7cf53 1 = .ok (.iload_n 1, 1) := by decide +kernel
theorem dJ9_max_7cf53_2 : decode cJ9_max_7cf53 2 = .ok (.if_icmp .lt 7, 3) := by decide +kernel
theorem dJ9_max_7cf53_5 : decode cJ9_max_7cf53 5 = .ok (.iload_n 0, 1) := by decide +kernel
theorem dJ9_max_7cf53_6 : decode cJ9_max_7cf53 6 = .ok (.goto 4, 3) := by decide +kernel
theorem dJ9_max_7cf53_9 : decode cJ9_max_7cf53 9 = .ok (.iload_n 1, 1) := by decide +kernel
theorem dJ9_max_7cf53_10 : decode cJ9_max_7cf53 10 = .ok (.ireturn, 1) := by decide +kernel
theorem dJ9_max_f86c9_0 : decode cJ9_max_f86c9 0 = .ok (.lload_n 0, 1) := by decide +kernel
theorem dJ9_max_f86c9_1 : decode cJ9_max_f86c9 1 = .ok (.lload_n 2, 1) := by decide +kernel
theorem dJ9_max_f86c9_2 : decode cJ9_max_f86c9 2 = .ok (.lcmp, 1) := by decide +kernel
theorem dJ9_max_f86c9_3 : decode cJ9_max_f86c9 3 = .ok (.ifCond .lt 7, 3) := by decide +kernel
theorem dJ9_max_f86c9_6 : decode cJ9_max_f86c9 6 = .ok (.lload_n 0, 1) := by decide +kernel
theorem dJ9_max_f86c9_7 : decode cJ9_max_f86c9 7 = .ok (.goto 4, 3) := by decide +kernel
theorem dJ9_max_f86c9_10 : decode cJ9_max_f86c9 10 = .ok (.lload_n 2, 1) := by decide +kernel
theorem dJ9_max_f86c9_11 : decode cJ9_max_f86c9 11 = .ok (.lreturn, 1) := by decide +kernel
theorem dJ9_min_7cf53_0 : decode cJ9_min_7cf53 0 = .ok (.iload_n 0, 1) := by decide +kernel
theorem dJ9_min_7cf53_1 : decode cJ9_min_7cf53 1 = .ok (.iload_n 1, 1) := by decide +kernel
theorem dJ9_min_7cf53_2 : decode cJ9_min_7cf53 2 = .ok (.if_icmp .gt 7, 3) := by decide +kernel
theorem dJ9_min_7cf53_5 : decode cJ9_min_7cf53 5 = .ok (.iload_n 0, 1) := by decide +kernel
theorem dJ9_min_7cf53_6 : decode cJ9_min_7cf53 6 = .ok (.goto 4, 3) := by decide +kernel
theorem dJ9_min_7cf53_9 : decode cJ9_min_7cf53 9 = .ok (.iload_n 1, 1) := by decide +kernel
theorem dJ9_min_7cf53_10 : decode cJ9_min_7cf53 10 = .ok (.ireturn, 1) := by decide +kernel
theorem dJ9_min_f86c9_0 : decode cJ9_min_f86c9 0 = .ok (.lload_n 0, 1) := by decide +kernel
theorem dJ9_min_f86c9_1 : decode cJ9_min_f86c9 1 = .ok (.lload_n 2, 1) := by decide +kernel
theorem dJ9_min_f86c9_2 : decode cJ9_min_f86c9 2 = .ok (.lcmp, 1) := by decide +kernel
theorem dJ9_min_f86c9_3 : decode cJ9_min_f86c9 3 = .ok (.ifCond .gt 7, 3) := by decide +kernel
theorem dJ9_min_f86c9_6 : decode cJ9_min_f86c9 6 = .ok (.lload_n 0, 1) := by decide +kernel
theorem dJ9_min_f86c9_7 : decode cJ9_min_f86c9 7 = .ok (.goto 4, 3) := by decide +kernel
theorem dJ9_min_f86c9_10 : decode cJ9_min_f86c9 10 = .ok (.lload_n 2, 1) := by decide +kernel
theorem dJ9_min_f86c9_11 : decode cJ9_min_f86c9 11 = .ok (.lreturn, 1) := by decide +kernel
theorem dJ7_fill_53178_0 : decode cJ7_fill_53178 0 = .ok (.iconst 0, 1) := by decide +kernel
theorem dJ7_fill_53178_1 : decode cJ7_fill_53178 1 = .ok (.istore_n 2, 1) := by decide +kernel
theorem dJ7_fill_53178_2 : decode cJ7_fill_53178 2 = .ok (.aload_n 0, 1) := by decide +kernel
theorem dJ7_fill_53178_3 : decode cJ7_fill_53178 3 = .ok (.arraylength, 1) := by decide +kernel
theorem dJ7_fill_53178_4 : decode cJ7_fill_53178 4 = .ok (.istore_n 3, 1) := by decide +kernel
theorem dJ7_fill_53178_5 : decode cJ7_fill_53178 5 = .ok (.iload_n 2, 1) := by decide +kernel
theorem dJ7_fill_53178_6 : decode cJ7_fill_53178 6 = .ok (.iload_n 3, 1) := by decide +kernel
theorem dJ7_fill_53178_7 : decode cJ7_fill_53178 7 = .ok (.if_icmp .ge 13, 3) := by decide +kernel
theorem dJ7_fill_53178_10 : decode cJ7_fill_53178 10 = .ok (.aload_n 0, 1) := by decide +kernel
theorem dJ7_fill_53178_11 : decode cJ7_fill_53178 11 = .ok (.iload_n 2, 1) := by decide +kernel
theorem dJ7_fill_53178_12 : decode cJ7_fill_53178 12 = .ok (.iload_n 1, 1) := by decide +kernel
theorem dJ7_fill_53178_13 : decode cJ7_fill_53178 13 = .ok (.iastore, 1) := by decide +kernel
theorem dJ7_fill_53178_14 : decode cJ7_fill_53178 14 = .ok (.iinc 2 1, 3) := by decide +kernel
theorem dJ7_fill_53178_17 : decode cJ7_fill_53178 17 = .ok (.goto (-12), 3) := by decide +kernel
theorem dJ7_fill_53178_20 : decode cJ7_fill_53178 20 = .ok (.return_, 1) := by decide +kernel
