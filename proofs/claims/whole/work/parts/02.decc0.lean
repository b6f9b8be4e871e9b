theorem dX0_init_0 : decode cX0_init 0 = .ok (.aload_n 0, 1) := by decide +kernel
theorem dX0_init_1 : decode cX0_init 1 = .ok (.invokespecial 3, 3) := by decide +kernel
theorem dX0_init_4 : decode cX0_init 4 = .ok (.aload_n 0, 1) := by decide +kernel
theorem dX0_init_5 : decode cX0_init 5 = .ok (.sipush 192, 3) := by decide +kernel
theorem dX0_init_8 : decode cX0_init 8 = .ok (.newarray .int, 2) := by decide +kernel
theorem dX0_init_10 : decode cX0_init 10 = .ok (.putfield 11, 3) := by decide +kernel
theorem dX0_init_13 : decode cX0_init 13 = .ok (.aload_n 0, 1) := by decide +kernel
theorem dX0_init_14 : decode cX0_init 14 = .ok (.iconst 2, 1) := by decide +kernel
theorem dX0_init_15 : decode cX0_init 15 = .ok (.newarray .int, 2) := by decide +kernel
theorem dX0_init_17 : decode cX0_init 17 = .ok (.putfield 15, 3) := by decide +kernel
theorem dX0_init_20 : decode cX0_init 20 = .ok (.aload_n 0, 1) := by decide +kernel
theorem dX0_init_21 : decode cX0_init 21 = .ok (.getfield 11, 3) := by decide +kernel
theorem dX0_init_24 : decode cX0_init 24 = .ok (.iconst (-1), 1) := by decide +kernel
theorem dX0_init_25 : decode cX0_init 25 = .ok (.invokestatic 18, 3) := by decide +kernel
theorem dX0_init_28 : decode cX0_init 28 = .ok (.aload_n 0, 1) := by decide +kernel
theorem dX0_init_29 : decode cX0_init 29 = .ok (.getfield 15, 3) := by decide +kernel
theorem dX0_init_32 : decode cX0_init 32 = .ok (.iconst 1, 1) := by decide +kernel
theorem dX0_init_33 : decode cX0_init 33 = .ok (.invokestatic 18, 3) := by decide +kernel
theorem dX0_init_36 : decode cX0_init 36 = .ok (.return_, 1) := by decide +kernel
theorem dX0_placeOf_0 : decode cX0_placeOf 0 = .ok (.iload_n 1, 1) := by decide +kernel
theorem dX0_placeOf_1 : decode cX0_placeOf 1 = .ok (.iconst 4, 1) := by decide +kernel
theorem dX0_placeOf_2 : decode cX0_placeOf 2 = .ok (.imul, 1) := by decide +kernel
theorem dX0_placeOf_3 : decode cX0_placeOf 3 = .ok (.iload_n 2, 1) := by decide +kernel
theorem dX0_placeOf_4 : decode cX0_placeOf 4 = .ok (.iadd, 1) := by decide +kernel
theorem dX0_placeOf_5 : decode cX0_placeOf 5 = .ok (.bipush 12, 2) := by decide +kernel
theorem dX0_placeOf_7 : decode cX0_placeOf 7 = .ok (.imul, 1) := by decide +kernel
theorem dX0_placeOf_8 : decode cX0_placeOf 8 = .ok (.iload_n 3, 1) := by decide +kernel
theorem dX0_placeOf_9 : decode cX0_placeOf 9 = .ok (.iadd, 1) := by decide +kernel
theorem dX0_placeOf_10 : decode cX0_placeOf 10 = .ok (.iconst 2, 1) := by decide +kernel
theorem dX0_placeOf_11 : decode cX0_placeOf 11 = .ok (.imul, 1) := by decide +kernel
theorem dX0_placeOf_12 : decode cX0_placeOf 12 = .ok (.iload 4, 2) := by decide +kernel
theorem dX0_placeOf_14 : decode cX0_placeOf 14 = .ok (.iadd, 1) := by decide +kernel
theorem dX0_placeOf_15 : decode cX0_placeOf 15 = .ok (.ireturn, 1) := by decide +kernel
theorem dX0_hiddenOf_0 : decode cX0_hiddenOf 0 = .ok (.aload_n 0, 1) := by decide +kernel
theorem dX0_hiddenOf_1 : decode cX0_hiddenOf 1 = .ok (.getfield 11, 3) := by decide +kernel
theorem dX0_hiddenOf_4 : decode cX0_hiddenOf 4 = .ok (.aload_n 0, 1) := by decide +kernel
theorem dX0_hiddenOf_5 : decode cX0_hiddenOf 5 = .ok (.iload_n 1, 1) := by decide +kernel
theorem dX0_hiddenOf_6 : decode cX0_hiddenOf 6 = .ok (.iload_n 2, 1) := by decide +kernel
theorem dX0_hiddenOf_7 : decode cX0_hiddenOf 7 = .ok (.iload_n 3, 1) := by decide +kernel
theorem dX0_hiddenOf_8 : decode cX0_hiddenOf 8 = .ok (.iconst 0, 1) := by decide +kernel
theorem dX0_hiddenOf_9 : decode cX0_hiddenOf 9 = .ok (.invokevirtual 24, 3) := by decide +kernel
theorem dX0_hiddenOf_12 : decode cX0_hiddenOf 12 = .ok (.iaload, 1) := by decide +kernel
theorem dX0_hiddenOf_13 : decode cX0_hiddenOf 13 = .ok (.istore 4, 2) := by decide +kernel
theorem dX0_hiddenOf_15 : decode cX0_hiddenOf 15 = .ok (.aload_n 0, 1) := by decide +kernel
theorem dX0_hiddenOf_16 : decode cX0_hiddenOf 16 = .ok (.getfield 11, 3) := by decide +kernel
theorem dX0_hiddenOf_19 : decode cX0_hiddenOf 19 = .ok (.aload_n 0, 1) := by decide +kernel
theorem dX0_hiddenOf_20 : decode cX0_hiddenOf 20 = .ok (.iconst 1, 1) := by decide +kernel
theorem dX0_hiddenOf_21 : decode cX0_hiddenOf 21 = .ok (.iload_n 1, 1) := by decide +kernel
theorem dX0_hiddenOf_22 : decode cX0_hiddenOf 22 = .ok (.isub, 1) := by decide +kernel
theorem dX0_hiddenOf_23 : decode cX0_hiddenOf 23 = .ok (.iload_n 2, 1) := by decide +kernel
theorem dX0_hiddenOf_24 : decode cX0_hiddenOf 24 = .ok (.iload_n 3, 1) := by decide +kernel
theorem dX0_hiddenOf_25 : decode cX0_hiddenOf 25 = .ok (.iconst 1, 1) := by decide +kernel
theorem dX0_hiddenOf_26 : decode cX0_hiddenOf 26 = .ok (.invokevirtual 24, 3) := by decide +kernel
theorem dX0_hiddenOf_29 : decode cX0_hiddenOf 29 = .ok (.iaload, 1) := by decide +kernel
theorem dX0_hiddenOf_30 : decode cX0_hiddenOf 30 = .ok (.istore 5, 2) := by decide +kernel
theorem dX0_hiddenOf_32 : decode cX0_hiddenOf 32 = .ok (.iload 4, 2) := by decide +kernel
theorem dX0_hiddenOf_34 : decode cX0_hiddenOf 34 = .ok (.iconst (-1), 1) := by decide +kernel
theorem dX0_hiddenOf_35 : decode cX0_hiddenOf 35 = .ok (.if_icmp .eq 9, 3) := by decide +kernel
theorem dX0_hiddenOf_38 : decode cX0_hiddenOf 38 = .ok (.iload 5, 2) := by decide +kernel
theorem dX0_hiddenOf_40 : decode cX0_hiddenOf 40 = .ok (.iconst (-1), 1) := by decide +kernel
theorem dX0_hiddenOf_41 : decode cX0_hiddenOf 41 = .ok (.if_icmp .ne 8, 3) := by decide +kernel
theorem dX0_hiddenOf_44 : decode cX0_hiddenOf 44 = .ok (.ldc 28, 2) := by decide +kernel
theorem dX0_hiddenOf_46 : decode cX0_hiddenOf 46 = .ok (.goto 8, 3) := by decide +kernel
theorem dX0_hiddenOf_49 : decode cX0_hiddenOf 49 = .ok (.iload 5, 2) := by decide +kernel
theorem dX0_hiddenOf_51 : decode cX0_hiddenOf 51 = .ok (.iload 4, 2) := by decide +kernel
theorem dX0_hiddenOf_53 : decode cX0_hiddenOf 53 = .ok (.isub, 1) := by decide +kernel
theorem dX0_hiddenOf_54 : decode cX0_hiddenOf 54 = .ok (.ireturn, 1) := by decide +kernel
theorem dX0_agreedOf_0 : decode cX0_agreedOf 0 = .ok (.aload_n 0, 1) := by decide +kernel
theorem dX0_agreedOf_1 : decode cX0_agreedOf 1 = .ok (.getfield 11, 3) := by decide +kernel
theorem dX0_agreedOf_4 : decode cX0_agreedOf 4 = .ok (.aload_n 0, 1) := by decide +kernel
theorem dX0_agreedOf_5 : decode cX0_agreedOf 5 = .ok (.iload_n 1, 1) := by decide +kernel
theorem dX0_agreedOf_6 : decode cX0_agreedOf 6 = .ok (.iload_n 2, 1) := by decide +kernel
theorem dX0_agreedOf_7 : decode cX0_agreedOf 7 = .ok (.iload_n 3, 1) := by decide +kernel
theorem dX0_agreedOf_8 : decode cX0_agreedOf 8 = .ok (.iconst 0, 1) := by decide +kernel
theorem dX0_agreedOf_9 : decode cX0_agreedOf 9 = .ok (.invokevirtual 24, 3) := by decide +kernel
theorem dX0_agreedOf_12 : decode cX0_agreedOf 12 = .ok (.iaload, 1) := by decide +kernel
theorem dX0_agreedOf_13 : decode cX0_agreedOf 13 = .ok (.istore 4, 2) := by decide +kernel
theorem dX0_agreedOf_15 : decode cX0_agreedOf 15 = .ok (.aload_n 0, 1) := by decide +kernel
theorem dX0_agreedOf_16 : decode cX0_agreedOf 16 = .ok (.getfield 11, 3) := by decide +kernel
theorem dX0_agreedOf_19 : decode cX0_agreedOf 19 = .ok (.aload_n 0, 1) := by decide +kernel
theorem dX0_agreedOf_20 : decode cX0_agreedOf 20 = .ok (.iconst 1, 1) := by decide +kernel
theorem dX0_agreedOf_21 : decode cX0_agreedOf 21 = .ok (.iload_n 1, 1) := by decide +kernel
theorem dX0_agreedOf_22 : decode cX0_agreedOf 22 = .ok (.isub, 1) := by decide +kernel
theorem dX0_agreedOf_23 : decode cX0_agreedOf 23 = .ok (.iload_n 2, 1) := by decide +kernel
theorem dX0_agreedOf_24 : decode cX0_agreedOf 24 = .ok (.iload_n 3, 1) := by decide +kernel
theorem dX0_agreedOf_25 : decode cX0_agreedOf 25 = .ok (.iconst 1, 1) := by decide +kernel
theorem dX0_agreedOf_26 : decode cX0_agreedOf 26 = .ok (.invokevirtual 24, 3) := by decide +kernel
theorem dX0_agreedOf_29 : decode cX0_agreedOf 29 = .ok (.iaload, 1) := by decide +kernel
theorem dX0_agreedOf_30 : decode cX0_agreedOf 30 = .ok (.istore 5, 2) := by decide +kernel
theorem dX0_agreedOf_32 : decode cX0_agreedOf 32 = .ok (.iload 4, 2) := by decide +kernel
theorem dX0_agreedOf_34 : decode cX0_agreedOf 34 = .ok (.iconst (-1), 1) := by decide +kernel
theorem dX0_agreedOf_35 : decode cX0_agreedOf 35 = .ok (.if_icmp .eq 9, 3) := by decide +kernel
theorem dX0_agreedOf_38 : decode cX0_agreedOf 38 = .ok (.iload 5, 2) := by decide +kernel
theorem dX0_agreedOf_40 : decode cX0_agreedOf 40 = .ok (.iconst (-1), 1) := by decide +kernel
theorem dX0_agreedOf_41 : decode cX0_agreedOf 41 = .ok (.if_icmp .ne 15, 3) := by decide +kernel
theorem dX0_agreedOf_44 : decode cX0_agreedOf 44 = .ok (.iconst 0, 1) := by decide +kernel
theorem dX0_agreedOf_45 : decode cX0_agreedOf 45 = .ok (.iload 4, 2) := by decide +kernel
theorem dX0_agreedOf_47 : decode cX0_agreedOf 47 = .ok (.iload 5, 2) := by decide +kernel
theorem dX0_agreedOf_49 : decode cX0_agreedOf 49 = .ok (.invokestatic 29, 3) := by decide +kernel
theorem dX0_agreedOf_52 : decode cX0_agreedOf 52 = .ok (.invokestatic 29, 3) := by decide +kernel
theorem dX0_agreedOf_55 : decode cX0_agreedOf 55 = .ok (.ireturn, 1) := by decide +kernel
theorem dX0_agreedOf_56 : decode cX0_agreedOf 56 = .ok (.aload_n 0, 1) := by decide +kernel
theorem dX0_agreedOf_57 : decode cX0_agreedOf 57 = .ok (.getfield 15, 3) := by decide +kernel
theorem dX0_agreedOf_60 : decode cX0_agreedOf 60 = .ok (.iload_n 1, 1) := by decide +kernel
theorem dX0_agreedOf_61 : decode cX0_agreedOf 61 = .ok (.iaload, 1) := by decide +kernel
theorem dX0_agreedOf_62 : decode cX0_agreedOf 62 = .ok (.aload_n 0, 1) := by decide +kernel
theorem dX0_agreedOf_63 : decode cX0_agreedOf 63 = .ok (.getfield 15, 3) := by decide +kernel
theorem dX0_agreedOf_66 : decode cX0_agreedOf 66 = .ok (.iconst 1, 1) := by decide +kernel
theorem dX0_agreedOf_67 : decode cX0_agreedOf 67 = .ok (.iload_n 1, 1) := by decide +kernel
theorem dX0_agreedOf_68 : decode cX0_agreedOf 68 = .ok (.isub, 1) := by decide +kernel
theorem dX0_agreedOf_69 : decode cX0_agreedOf 69 = .ok (.iaload, 1) := by decide +kernel
theorem dX0_agreedOf_70 : decode cX0_agreedOf 70 = .ok (.iadd, 1) := by decide +kernel
theorem dX0_agreedOf_71 : decode cX0_agreedOf 71 = .ok (.istore 6, 2) := by decide +kernel
theorem dX0_agreedOf_73 : decode cX0_agreedOf 73 = .ok (.iload 4, 2) := by decide +kernel
theorem dX0_agreedOf_75 : decode cX0_agreedOf 75 = .ok (.aload_n 0, 1) := by decide +kernel
theorem dX0_agreedOf_76 : decode cX0_agreedOf 76 = .ok (.getfield 15, 3) := by decide +kernel
theorem dX0_agreedOf_79 : decode cX0_agreedOf 79 = .ok (.iload_n 1, 1) := by decide +kernel
theorem dX0_agreedOf_80 : decode cX0_agreedOf 80 = .ok (.iaload, 1) := by decide +kernel
theorem dX0_agreedOf_81 : decode cX0_agreedOf 81 = .ok (.imul, 1) := by decide +kernel
theorem dX0_agreedOf_82 : decode cX0_agreedOf 82 = .ok (.iload 5, 2) := by decide +kernel
theorem dX0_agreedOf_84 : decode cX0_agreedOf 84 = .ok (.aload_n 0, 1) := by decide +kernel
theorem dX0_agreedOf_85 : decode cX0_agreedOf 85 = .ok (.getfield 15, 3) := by decide +kernel
theorem dX0_agreedOf_88 : decode cX0_agreedOf 88 = .ok (.iconst 1, 1) := by decide +kernel
theorem dX0_agreedOf_89 : decode cX0_agreedOf 89 = .ok (.iload_n 1, 1) := by decide +kernel
theorem dX0_agreedOf_90 : decode cX0_agreedOf 90 = .ok (.isub, 1) := by decide +kernel
theorem dX0_agreedOf_91 : decode cX0_agreedOf 91 = .ok (.iaload, 1) := by decide +kernel
theorem dX0_agreedOf_92 : decode cX0_agreedOf 92 = .ok (.imul, 1) := by decide +kernel
theorem dX0_agreedOf_93 : decode cX0_agreedOf 93 = .ok (.iadd, 1) := by decide +kernel
theorem dX0_agreedOf_94 : decode cX0_agreedOf 94 = .ok (.istore 7, 2) := by decide +kernel
theorem dX0_agreedOf_96 : decode cX0_agreedOf 96 = .ok (.iload 6, 2) := by decide +kernel
theorem dX0_agreedOf_98 : decode cX0_agreedOf 98 = .ok (.ifCond .le 18, 3) := by decide +kernel
theorem dX0_agreedOf_101 : decode cX0_agreedOf 101 = .ok (.iconst 2, 1) := by decide +kernel
theorem dX0_agreedOf_102 : decode cX0_agreedOf 102 = .ok (.iload 7, 2) := by decide +kernel
theorem dX0_agreedOf_104 : decode cX0_agreedOf 104 = .ok (.imul, 1) := by decide +kernel
theorem dX0_agreedOf_105 : decode cX0_agreedOf 105 = .ok (.iload 6, 2) := by decide +kernel
theorem dX0_agreedOf_107 : decode cX0_agreedOf 107 = .ok (.iadd, 1) := by decide +kernel
theorem dX0_agreedOf_108 : decode cX0_agreedOf 108 = .ok (.iconst 2, 1) := by decide +kernel
theorem dX0_agreedOf_109 : decode cX0_agreedOf 109 = .ok (.iload 6, 2) := by decide +kernel
theorem dX0_agreedOf_111 : decode cX0_agreedOf 111 = .ok (.imul, 1) := by decide +kernel
theorem dX0_agreedOf_112 : decode cX0_agreedOf 112 = .ok (.idiv, 1) := by decide +kernel
theorem dX0_agreedOf_113 : decode cX0_agreedOf 113 = .ok (.goto 4, 3) := by decide +kernel
theorem dX0_agreedOf_116 : decode cX0_agreedOf 116 = .ok (.iconst 0, 1) := by decide +kernel
theorem dX0_agreedOf_117 : decode cX0_agreedOf 117 = .ok (.ireturn, 1) := by decide +kernel
theorem dX1_init_0 : decode cX1_init 0 = .ok (.aload_n 0, 1) := by decide +kernel
theorem dX1_init_1 : decode cX1_init 1 = .ok (.invokespecial 3, 3) := by decide +kernel
theorem dX1_init_4 : decode cX1_init 4 = .ok (.aload_n 0, 1) := by decide +kernel
theorem dX1_init_5 : decode cX1_init 5 = .ok (.bipush 60, 2) := by decide +kernel
theorem dX1_init_7 : decode cX1_init 7 = .ok (.newarray .int, 2) := by decide +kernel
theorem dX1_init_9 : decode cX1_init 9 = .ok (.putfield 9, 3) := by decide +kernel
theorem dX1_init_12 : decode cX1_init 12 = .ok (.aload_n 0, 1) := by decide +kernel
theorem dX1_init_13 : decode cX1_init 13 = .ok (.iconst 0, 1) := by decide +kernel
theorem dX1_init_14 : decode cX1_init 14 = .ok (.putfield 15, 3) := by decide +kernel
theorem dX1_init_17 : decode cX1_init 17 = .ok (.aload_n 0, 1) := by decide +kernel
theorem dX1_init_18 : decode cX1_init 18 = .ok (.bipush 60, 2) := by decide +kernel
theorem dX1_init_20 : decode cX1_init 20 = .ok (.newarray .int, 2) := by decide +kernel
theorem dX1_init_22 : decode cX1_init 22 = .ok (.putfield 19, 3) := by decide +kernel
theorem dX1_init_25 : decode cX1_init 25 = .ok (.aload_n 0, 1) := by decide +kernel
theorem dX1_init_26 : decode cX1_init 26 = .ok (.bipush 60, 2) := by decide +kernel
theorem dX1_init_28 : decode cX1_init 28 = .ok (.newarray .int, 2) := by decide +kernel
theorem dX1_init_30 : decode cX1_init 30 = .ok (.putfield 22, 3) := by decide +kernel
theorem dX1_init_33 : decode cX1_init 33 = .ok (.aload_n 0, 1) := by decide +kernel
theorem dX1_init_34 : decode cX1_init 34 = .ok (.iconst 0, 1) := by decide +kernel
theorem dX1_init_35 : decode cX1_init 35 = .ok (.putfield 25, 3) := by decide +kernel
theorem dX1_init_38 : decode cX1_init 38 = .ok (.aload_n 0, 1) := by decide +kernel
theorem dX1_init_39 : decode cX1_init 39 = .ok (.iconst 0, 1) := by decide +kernel
theorem dX1_init_40 : decode cX1_init 40 = .ok (.putfield 28, 3) := by decide +kernel
theorem dX1_init_43 : decode cX1_init 43 = .ok (.return_, 1) := by decide +kernel
theorem dX1_append_0 : decode cX1_append 0 = .ok (.aload_n 0, 1) := by decide +kernel
theorem dX1_append_1 : decode cX1_append 1 = .ok (.getfield 9, 3) := by decide +kernel
theorem dX1_append_4 : decode cX1_append 4 = .ok (.aload_n 0, 1) := by decide +kernel
theorem dX1_append_5 : decode cX1_append 5 = .ok (.getfield 15, 3) := by decide +kernel
theorem dX1_append_8 : decode cX1_append 8 = .ok (.iload_n 1, 1) := by decide +kernel
theorem dX1_append_9 : decode cX1_append 9 = .ok (.iastore, 1) := by decide +kernel
theorem dX1_append_10 : decode cX1_append 10 = .ok (.aload_n 0, 1) := by decide +kernel
theorem dX1_append_11 : decode cX1_append 11 = .ok (.dup, 1) := by decide +kernel
theorem dX1_append_12 : decode cX1_append 12 = .ok (.getfield 15, 3) := by decide +kernel
theorem dX1_append_15 : decode cX1_append 15 = .ok (.iconst 1, 1) := by decide +kernel
theorem dX1_append_16 : decode cX1_append 16 = .ok (.iadd, 1) := by decide +kernel
theorem dX1_append_17 : decode cX1_append 17 = .ok (.putfield 15, 3) := by decide +kernel
theorem dX1_append_20 : decode cX1_append 20 = .ok (.return_, 1) := by decide +kernel
theorem dX1_scan_0 : decode cX1_scan 0 = .ok (.aload_n 0, 1) := by decide +kernel
theorem dX1_scan_1 : decode cX1_scan 1 = .ok (.iconst 0, 1) := by decide +kernel
theorem dX1_scan_2 : decode cX1_scan 2 = .ok (.putfield 28, 3) := by decide +kernel
theorem dX1_scan_5 : decode cX1_scan 5 = .ok (.aload_n 0, 1) := by decide +kernel
theorem dX1_scan_6 : decode cX1_scan 6 = .ok (.iconst 0, 1) := by decide +kernel
theorem dX1_scan_7 : decode cX1_scan 7 = .ok (.putfield 25, 3) := by decide +kernel
theorem dX1_scan_10 : decode cX1_scan 10 = .ok (.iconst 1, 1) := by decide +kernel
theorem dX1_scan_11 : decode cX1_scan 11 = .ok (.istore_n 1, 1) := by decide +kernel
theorem dX1_scan_12 : decode cX1_scan 12 = .ok (.iconst 1, 1) := by decide +kernel
theorem dX1_scan_13 : decode cX1_scan 13 = .ok (.istore_n 2, 1) := by decide +kernel
theorem dX1_scan_14 : decode cX1_scan 14 = .ok (.iconst 0, 1) := by decide +kernel
theorem dX1_scan_15 : decode cX1_scan 15 = .ok (.istore_n 3, 1) := by decide +kernel
theorem dX1_scan_16 : decode cX1_scan 16 = .ok (.iload_n 3, 1) := by decide +kernel
theorem dX1_scan_17 : decode cX1_scan 17 = .ok (.bipush 60, 2) := by decide +kernel
theorem dX1_scan_19 : decode cX1_scan 19 = .ok (.if_icmp .ge 113, 3) := by decide +kernel
theorem dX1_scan_22 : decode cX1_scan 22 = .ok (.aload_n 0, 1) := by decide +kernel
theorem dX1_scan_23 : decode cX1_scan 23 = .ok (.iload_n 2, 1) := by decide +kernel
theorem dX1_scan_24 : decode cX1_scan 24 = .ok (.invokevirtual 31, 3) := by decide +kernel
theorem dX1_scan_27 : decode cX1_scan 27 = .ok (.istore 4, 2) := by decide +kernel
theorem dX1_scan_29 : decode cX1_scan 29 = .ok (.iload 4, 2) := by decide +kernel
theorem dX1_scan_31 : decode cX1_scan 31 = .ok (.iconst (-1), 1) := by decide +kernel
theorem dX1_scan_32 : decode cX1_scan 32 = .ok (.if_icmp .eq 6, 3) := by decide +kernel
theorem dX1_scan_35 : decode cX1_scan 35 = .ok (.iload 4, 2) := by decide +kernel
theorem dX1_scan_37 : decode cX1_scan 37 = .ok (.ireturn, 1) := by decide +kernel
theorem dX1_scan_38 : decode cX1_scan 38 = .ok (.aload_n 0, 1) := by decide +kernel
theorem dX1_scan_39 : decode cX1_scan 39 = .ok (.getfield 28, 3) := by decide +kernel
theorem dX1_scan_42 : decode cX1_scan 42 = .ok (.aload_n 0, 1) := by decide +kernel
theorem dX1_scan_43 : decode cX1_scan 43 = .ok (.getfield 15, 3) := by decide +kernel
theorem dX1_scan_46 : decode cX1_scan 46 = .ok (.if_icmp .lt 16, 3) := by decide +kernel
theorem dX1_scan_49 : decode cX1_scan 49 = .ok (.iload_n 1, 1) := by decide +kernel
theorem dX1_scan_50 : decode cX1_scan 50 = .ok (.ifCond .ge 7, 3) := by decide +kernel
theorem dX1_scan_53 : decode cX1_scan 53 = .ok (.iconst (-1), 1) := by decide +kernel
theorem dX1_scan_54 : decode cX1_scan 54 = .ok (.goto 7, 3) := by decide +kernel
theorem dX1_scan_57 : decode cX1_scan 57 = .ok (.aload_n 0, 1) := by decide +kernel
theorem dX1_scan_58 : decode cX1_scan 58 = .ok (.getfield 28, 3) := by decide +kernel
theorem dX1_scan_61 : decode cX1_scan 61 = .ok (.ireturn, 1) := by decide +kernel
theorem dX1_scan_62 : decode cX1_scan 62 = .ok (.aload_n 0, 1) := by decide +kernel
theorem dX1_scan_63 : decode cX1_scan 63 = .ok (.bipush 61, 2) := by decide +kernel
theorem dX1_scan_65 : decode cX1_scan 65 = .ok (.invokevirtual 35, 3) := by decide +kernel
theorem dX1_scan_68 : decode cX1_scan 68 = .ok (.ifCond .eq 14, 3) := by decide +kernel
theorem dX1_scan_71 : decode cX1_scan 71 = .ok (.iload_n 1, 1) := by decide +kernel
theorem dX1_scan_72 : decode cX1_scan 72 = .ok (.ifCond .le 10, 3) := by decide +kernel
theorem dX1_scan_75 : decode cX1_scan 75 = .ok (.iconst (-1), 1) := by decide +kernel
theorem dX1_scan_76 : decode cX1_scan 76 = .ok (.istore_n 1, 1) := by decide +kernel
theorem dX1_scan_77 : decode cX1_scan 77 = .ok (.iconst (-1), 1) := by decide +kernel
theorem dX1_scan_78 : decode cX1_scan 78 = .ok (.istore_n 2, 1) := by decide +kernel
theorem dX1_scan_79 : decode cX1_scan 79 = .ok (.goto 37, 3) := by decide +kernel
theorem dX1_scan_82 : decode cX1_scan 82 = .ok (.aload_n 0, 1) := by decide +kernel
theorem dX1_scan_83 : decode cX1_scan 83 = .ok (.bipush 43, 2) := by decide +kernel
theorem dX1_scan_85 : decode cX1_scan 85 = .ok (.invokevirtual 35, 3) := by decide +kernel
theorem dX1_scan_88 : decode cX1_scan 88 = .ok (.ifCond .eq 8, 3) := by decide +kernel
theorem dX1_scan_91 : decode cX1_scan 91 = .ok (.iload_n 1, 1) := by decide +kernel
theorem dX1_scan_92 : decode cX1_scan 92 = .ok (.istore_n 2, 1) := by decide +kernel
theorem dX1_scan_93 : decode cX1_scan 93 = .ok (.goto 23, 3) := by decide +kernel
theorem dX1_scan_96 : decode cX1_scan 96 = .ok (.aload_n 0, 1) := by decide +kernel
theorem dX1_scan_97 : decode cX1_scan 97 = .ok (.bipush 45, 2) := by decide +kernel
theorem dX1_scan_99 : decode cX1_scan 99 = .ok (.invokevirtual 35, 3) := by decide +kernel
theorem dX1_scan_102 : decode cX1_scan 102 = .ok (.ifCond .eq 9, 3) := by decide +kernel
theorem dX1_scan_105 : decode cX1_scan 105 = .ok (.iload_n 1, 1) := by decide +kernel
theorem dX1_scan_106 : decode cX1_scan 106 = .ok (.ineg, 1) := by decide +kernel
theorem dX1_scan_107 : decode cX1_scan 107 = .ok (.istore_n 2, 1) := by decide +kernel
theorem dX1_scan_108 : decode cX1_scan 108 = .ok (.goto 8, 3) := by decide +kernel
theorem dX1_scan_111 : decode cX1_scan 111 = .ok (.aload_n 0, 1) := by decide +kernel
theorem dX1_scan_112 : decode cX1_scan 112 = .ok (.getfield 28, 3) := by decide +kernel
theorem dX1_scan_115 : decode cX1_scan 115 = .ok (.ireturn, 1) := by decide +kernel
theorem dX1_scan_116 : decode cX1_scan 116 = .ok (.aload_n 0, 1) := by decide +kernel
theorem dX1_scan_117 : decode cX1_scan 117 = .ok (.dup, 1) := by decide +kernel
theorem dX1_scan_118 : decode cX1_scan 118 = .ok (.getfield 28, 3) := by decide +kernel
theorem dX1_scan_121 : decode cX1_scan 121 = .ok (.iconst 1, 1) := by decide +kernel
theorem dX1_scan_122 : decode cX1_scan 122 = .ok (.iadd, 1) := by decide +kernel
theorem dX1_scan_123 : decode cX1_scan 123 = .ok (.putfield 28, 3) := by decide +kernel
theorem dX1_scan_126 : decode cX1_scan 126 = .ok (.iinc 3 1, 3) := by decide +kernel
theorem dX1_scan_129 : decode cX1_scan 129 = .ok (.goto (-113), 3) := by decide +kernel
theorem dX1_scan_132 : decode cX1_scan 132 = .ok (.aload_n 0, 1) := by decide +kernel
theorem dX1_scan_133 : decode cX1_scan 133 = .ok (.getfield 28, 3) := by decide +kernel
theorem dX1_scan_136 : decode cX1_scan 136 = .ok (.ireturn, 1) := by decide +kernel
theorem dX1_scanTerm_0 : decode cX1_scanTerm 0 = .ok (.aload_n 0, 1) := by decide +kernel
theorem dX1_scanTerm_1 : decode cX1_scanTerm 1 = .ok (.getfield 28, 3) := by decide +kernel
theorem dX1_scanTerm_4 : decode cX1_scanTerm 4 = .ok (.istore_n 2, 1) := by decide +kernel
theorem dX1_scanTerm_5 : decode cX1_scanTerm 5 = .ok (.aload_n 0, 1) := by decide +kernel
theorem dX1_scanTerm_6 : decode cX1_scanTerm 6 = .ok (.invokevirtual 39, 3) := by decide +kernel
theorem dX1_scanTerm_9 : decode cX1_scanTerm 9 = .ok (.istore_n 3, 1) := by decide +kernel
theorem dX1_scanTerm_10 : decode cX1_scanTerm 10 = .ok (.aload_n 0, 1) := by decide +kernel
theorem dX1_scanTerm_11 : decode cX1_scanTerm 11 = .ok (.getfield 28, 3) := by decide +kernel
theorem dX1_scanTerm_14 : decode cX1_scanTerm 14 = .ok (.iload_n 2, 1) := by decide +kernel
theorem dX1_scanTerm_15 : decode cX1_scanTerm 15 = .ok (.if_icmp .ne 9, 3) := by decide +kernel
theorem dX1_scanTerm_18 : decode cX1_scanTerm 18 = .ok (.aload_n 0, 1) := by decide +kernel
theorem dX1_scanTerm_19 : decode cX1_scanTerm 19 = .ok (.iload_n 1, 1) := by decide +kernel
theorem dX1_scanTerm_20 : decode cX1_scanTerm 20 = .ok (.invokevirtual 43, 3) := by decide +kernel
theorem dX1_scanTerm_23 : decode cX1_scanTerm 23 = .ok (.ireturn, 1) := by decide +kernel
theorem dX1_scanTerm_24 : decode cX1_scanTerm 24 = .ok (.aload_n 0, 1) := by decide +kernel
theorem dX1_scanTerm_25 : decode cX1_scanTerm 25 = .ok (.bipush 42, 2) := by decide +kernel
theorem dX1_scanTerm_27 : decode cX1_scanTerm 27 = .ok (.invokevirtual 35, 3) := by decide +kernel
theorem dX1_scanTerm_30 : decode cX1_scanTerm 30 = .ok (.ifCond .eq 21, 3) := by decide +kernel
theorem dX1_scanTerm_33 : decode cX1_scanTerm 33 = .ok (.aload_n 0, 1) := by decide +kernel
theorem dX1_scanTerm_34 : decode cX1_scanTerm 34 = .ok (.dup, 1) := by decide +kernel
theorem dX1_scanTerm_35 : decode cX1_scanTerm 35 = .ok (.getfield 28, 3) := by decide +kernel
theorem dX1_scanTerm_38 : decode cX1_scanTerm 38 = .ok (.iconst 1, 1) := by decide +kernel
theorem dX1_scanTerm_39 : decode cX1_scanTerm 39 = .ok (.iadd, 1) := by decide +kernel
theorem dX1_scanTerm_40 : decode cX1_scanTerm 40 = .ok (.putfield 28, 3) := by decide +kernel
theorem dX1_scanTerm_43 : decode cX1_scanTerm 43 = .ok (.aload_n 0, 1) := by decide +kernel
theorem dX1_scanTerm_44 : decode cX1_scanTerm 44 = .ok (.iload_n 1, 1) := by decide +kernel
theorem dX1_scanTerm_45 : decode cX1_scanTerm 45 = .ok (.iload_n 3, 1) := by decide +kernel
theorem dX1_scanTerm_46 : decode cX1_scanTerm 46 = .ok (.imul, 1) := by decide +kernel
theorem dX1_scanTerm_47 : decode cX1_scanTerm 47 = .ok (.invokevirtual 43, 3) := by decide +kernel
theorem dX1_scanTerm_50 : decode cX1_scanTerm 50 = .ok (.ireturn, 1) := by decide +kernel
theorem dX1_scanTerm_51 : decode cX1_scanTerm 51 = .ok (.aload_n 0, 1) := by decide +kernel
theorem dX1_scanTerm_52 : decode cX1_scanTerm 52 = .ok (.iload_n 1, 1) := by decide +kernel
theorem dX1_scanTerm_53 : decode cX1_scanTerm 53 = .ok (.iload_n 3, 1) := by decide +kernel
theorem dX1_scanTerm_54 : decode cX1_scanTerm 54 = .ok (.imul, 1) := by decide +kernel
theorem dX1_scanTerm_55 : decode cX1_scanTerm 55 = .ok (.iconst (-1), 1) := by decide +kernel
theorem dX1_scanTerm_56 : decode cX1_scanTerm 56 = .ok (.invokevirtual 46, 3) := by decide +kernel
theorem dX1_scanTerm_59 : decode cX1_scanTerm 59 = .ok (.ireturn, 1) := by decide +kernel
theorem dX1_scanNumber_0 : decode cX1_scanNumber 0 = .ok (.iconst 0, 1) := by decide +kernel
theorem dX1_scanNumber_1 : decode cX1_scanNumber 1 = .ok (.istore_n 1, 1) := by decide +kernel
theorem dX1_scanNumber_2 : decode cX1_scanNumber 2 = .ok (.iconst 0, 1) := by decide +kernel
theorem dX1_scanNumber_3 : decode cX1_scanNumber 3 = .ok (.istore_n 2, 1) := by decide +kernel
theorem dX1_scanNumber_4 : decode cX1_scanNumber 4 = .ok (.iload_n 2, 1) := by decide +kernel
theorem dX1_scanNumber_5 : decode cX1_scanNumber 5 = .ok (.bipush 6, 2) := by decide +kernel
theorem dX1_scanNumber_7 : decode cX1_scanNumber 7 = .ok (.if_icmp .ge 44, 3) := by decide +kernel
theorem dX1_scanNumber_10 : decode cX1_scanNumber 10 = .ok (.aload_n 0, 1) := by decide +kernel
theorem dX1_scanNumber_11 : decode cX1_scanNumber 11 = .ok (.invokevirtual 50, 3) := by decide +kernel
theorem dX1_scanNumber_14 : decode cX1_scanNumber 14 = .ok (.ifCond .eq 37, 3) := by decide +kernel
theorem dX1_scanNumber_17 : decode cX1_scanNumber 17 = .ok (.bipush 10, 2) := by decide +kernel
theorem dX1_scanNumber_19 : decode cX1_scanNumber 19 = .ok (.iload_n 1, 1) := by decide +kernel
theorem dX1_scanNumber_20 : decode cX1_scanNumber 20 = .ok (.imul, 1) := by decide +kernel
theorem dX1_scanNumber_21 : decode cX1_scanNumber 21 = .ok (.aload_n 0, 1) := by decide +kernel
theorem dX1_scanNumber_22 : decode cX1_scanNumber 22 = .ok (.getfield 9, 3) := by decide +kernel
theorem dX1_scanNumber_25 : decode cX1_scanNumber 25 = .ok (.aload_n 0, 1) := by decide +kernel
theorem dX1_scanNumber_26 : decode cX1_scanNumber 26 = .ok (.getfield 28, 3) := by decide +kernel
theorem dX1_scanNumber_29 : decode cX1_scanNumber 29 = .ok (.iaload, 1) := by decide +kernel
theorem dX1_scanNumber_30 : decode cX1_scanNumber 30 = .ok (.iadd, 1) := by decide +kernel
theorem dX1_scanNumber_31 : decode cX1_scanNumber 31 = .ok (.bipush 48, 2) := by decide +kernel
theorem dX1_scanNumber_33 : decode cX1_scanNumber 33 = .ok (.isub, 1) := by decide +kernel
theorem dX1_scanNumber_34 : decode cX1_scanNumber 34 = .ok (.istore_n 1, 1) := by decide +kernel
theorem dX1_scanNumber_35 : decode cX1_scanNumber 35 = .ok (.aload_n 0, 1) := by decide +kernel
theorem dX1_scanNumber_36 : decode cX1_scanNumber 36 = .ok (.dup, 1) := by decide +kernel
theorem dX1_scanNumber_37 : decode cX1_scanNumber 37 = .ok (.getfield 28, 3) := by decide +kernel
theorem dX1_scanNumber_40 : decode cX1_scanNumber 40 = .ok (.iconst 1, 1) := by decide +kernel
theorem dX1_scanNumber_41 : decode cX1_scanNumber 41 = .ok (.iadd, 1) := by decide +kernel
theorem dX1_scanNumber_42 : decode cX1_scanNumber 42 = .ok (.putfield 28, 3) := by decide +kernel
theorem dX1_scanNumber_45 : decode cX1_scanNumber 45 = .ok (.iinc 2 1, 3) := by decide +kernel
theorem dX1_scanNumber_48 : decode cX1_scanNumber 48 = .ok (.goto (-44), 3) := by decide +kernel
theorem dX1_scanNumber_51 : decode cX1_scanNumber 51 = .ok (.iload_n 1, 1) := by decide +kernel
theorem dX1_scanNumber_52 : decode cX1_scanNumber 52 = .ok (.ireturn, 1) := by decide +kernel
theorem dX1_scanCell_0 : decode cX1_scanCell 0 = .ok (.aload_n 0, 1) := by decide +kernel
theorem dX1_scanCell_1 : decode cX1_scanCell 1 = .ok (.bipush 99, 2) := by decide +kernel
theorem dX1_scanCell_3 : decode cX1_scanCell 3 = .ok (.invokevirtual 35, 3) := by decide +kernel
theorem dX1_scanCell_6 : decode cX1_scanCell 6 = .ok (.ifCond .ne 8, 3) := by decide +kernel
theorem dX1_scanCell_9 : decode cX1_scanCell 9 = .ok (.aload_n 0, 1) := by decide +kernel
theorem dX1_scanCell_10 : decode cX1_scanCell 10 = .ok (.getfield 28, 3) := by decide +kernel
theorem dX1_scanCell_13 : decode cX1_scanCell 13 = .ok (.ireturn, 1) := by decide +kernel
theorem dX1_scanCell_14 : decode cX1_scanCell 14 = .ok (.aload_n 0, 1) := by decide +kernel
theorem dX1_scanCell_15 : decode cX1_scanCell 15 = .ok (.dup, 1) := by decide +kernel
theorem dX1_scanCell_16 : decode cX1_scanCell 16 = .ok (.getfield 28, 3) := by decide +kernel
theorem dX1_scanCell_19 : decode cX1_scanCell 19 = .ok (.iconst 1, 1) := by decide +kernel
theorem dX1_scanCell_20 : decode cX1_scanCell 20 = .ok (.iadd, 1) := by decide +kernel
theorem dX1_scanCell_21 : decode cX1_scanCell 21 = .ok (.putfield 28, 3) := by decide +kernel
theorem dX1_scanCell_24 : decode cX1_scanCell 24 = .ok (.aload_n 0, 1) := by decide +kernel
theorem dX1_scanCell_25 : decode cX1_scanCell 25 = .ok (.getfield 28, 3) := by decide +kernel
theorem dX1_scanCell_28 : decode cX1_scanCell 28 = .ok (.istore_n 2, 1) := by decide +kernel
theorem dX1_scanCell_29 : decode cX1_scanCell 29 = .ok (.iconst 0, 1) := by decide +kernel
theorem dX1_scanCell_30 : decode cX1_scanCell 30 = .ok (.istore_n 3, 1) := by decide +kernel
theorem dX1_scanCell_31 : decode cX1_scanCell 31 = .ok (.iload_n 3, 1) := by decide +kernel
theorem dX1_scanCell_32 : decode cX1_scanCell 32 = .ok (.iconst 3, 1) := by decide +kernel
theorem dX1_scanCell_33 : decode cX1_scanCell 33 = .ok (.if_icmp .ge 31, 3) := by decide +kernel
theorem dX1_scanCell_36 : decode cX1_scanCell 36 = .ok (.aload_n 0, 1) := by decide +kernel
theorem dX1_scanCell_37 : decode cX1_scanCell 37 = .ok (.invokevirtual 50, 3) := by decide +kernel
theorem dX1_scanCell_40 : decode cX1_scanCell 40 = .ok (.ifCond .ne 8, 3) := by decide +kernel
theorem dX1_scanCell_43 : decode cX1_scanCell 43 = .ok (.aload_n 0, 1) := by decide +kernel
theorem dX1_scanCell_44 : decode cX1_scanCell 44 = .ok (.getfield 28, 3) := by decide +kernel
theorem dX1_scanCell_47 : decode cX1_scanCell 47 = .ok (.ireturn, 1) := by decide +kernel
theorem dX1_scanCell_48 : decode cX1_scanCell 48 = .ok (.aload_n 0, 1) := by decide +kernel
theorem dX1_scanCell_49 : decode cX1_scanCell 49 = .ok (.dup, 1) := by decide +kernel
theorem dX1_scanCell_50 : decode cX1_scanCell 50 = .ok (.getfield 28, 3) := by decide +kernel
theorem dX1_scanCell_53 : decode cX1_scanCell 53 = .ok (.iconst 1, 1) := by decide +kernel
theorem dX1_scanCell_54 : decode cX1_scanCell 54 = .ok (.iadd, 1) := by decide +kernel
theorem dX1_scanCell_55 : decode cX1_scanCell 55 = .ok (.putfield 28, 3) := by decide +kernel
theorem dX1_scanCell_58 : decode cX1_scanCell 58 = .ok (.iinc 3 1, 3) := by decide +kernel
theorem dX1_scanCell_61 : decode cX1_scanCell 61 = .ok (.goto (-30), 3) := by decide +kernel
theorem dX1_scanCell_64 : decode cX1_scanCell 64 = .ok (.aload_n 0, 1) := by decide +kernel
theorem dX1_scanCell_65 : decode cX1_scanCell 65 = .ok (.getfield 9, 3) := by decide +kernel
theorem dX1_scanCell_68 : decode cX1_scanCell 68 = .ok (.iload_n 2, 1) := by decide +kernel
theorem dX1_scanCell_69 : decode cX1_scanCell 69 = .ok (.iaload, 1) := by decide +kernel
theorem dX1_scanCell_70 : decode cX1_scanCell 70 = .ok (.bipush 48, 2) := by decide +kernel
theorem dX1_scanCell_72 : decode cX1_scanCell 72 = .ok (.isub, 1) := by decide +kernel
theorem dX1_scanCell_73 : decode cX1_scanCell 73 = .ok (.istore_n 3, 1) := by decide +kernel
theorem dX1_scanCell_74 : decode cX1_scanCell 74 = .ok (.aload_n 0, 1) := by decide +kernel
theorem dX1_scanCell_75 : decode cX1_scanCell 75 = .ok (.getfield 9, 3) := by decide +kernel
theorem dX1_scanCell_78 : decode cX1_scanCell 78 = .ok (.iload_n 2, 1) := by decide +kernel
theorem dX1_scanCell_79 : decode cX1_scanCell 79 = .ok (.iconst 1, 1) := by decide +kernel
theorem dX1_scanCell_80 : decode cX1_scanCell 80 = .ok (.iadd, 1) := by decide +kernel
theorem dX1_scanCell_81 : decode cX1_scanCell 81 = .ok (.iaload, 1) := by decide +kernel
theorem dX1_scanCell_82 : decode cX1_scanCell 82 = .ok (.bipush 48, 2) := by decide +kernel
theorem dX1_scanCell_84 : decode cX1_scanCell 84 = .ok (.isub, 1) := by decide +kernel
theorem dX1_scanCell_85 : decode cX1_scanCell 85 = .ok (.istore 4, 2) := by decide +kernel
theorem dX1_scanCell_87 : decode cX1_scanCell 87 = .ok (.aload_n 0, 1) := by decide +kernel
theorem dX1_scanCell_88 : decode cX1_scanCell 88 = .ok (.getfield 9, 3) := by decide +kernel
theorem dX1_scanCell_91 : decode cX1_scanCell 91 = .ok (.iload_n 2, 1) := by decide +kernel
theorem dX1_scanCell_92 : decode cX1_scanCell 92 = .ok (.iconst 2, 1) := by decide +kernel
theorem dX1_scanCell_93 : decode cX1_scanCell 93 = .ok (.iadd, 1) := by decide +kernel
theorem dX1_scanCell_94 : decode cX1_scanCell 94 = .ok (.iaload, 1) := by decide +kernel
theorem dX1_scanCell_95 : decode cX1_scanCell 95 = .ok (.bipush 48, 2) := by decide +kernel
theorem dX1_scanCell_97 : decode cX1_scanCell 97 = .ok (.isub, 1) := by decide +kernel
theorem dX1_scanCell_98 : decode cX1_scanCell 98 = .ok (.istore 5, 2) := by decide +kernel
theorem dX1_scanCell_100 : decode cX1_scanCell 100 = .ok (.iload_n 3, 1) := by decide +kernel
theorem dX1_scanCell_101 : decode cX1_scanCell 101 = .ok (.iload 4, 2) := by decide +kernel
theorem dX1_scanCell_103 : decode cX1_scanCell 103 = .ok (.iload 5, 2) := by decide +kernel
theorem dX1_scanCell_105 : decode cX1_scanCell 105 = .ok (.invokestatic 54, 3) := by decide +kernel
theorem dX1_scanCell_108 : decode cX1_scanCell 108 = .ok (.ifCond .eq 20, 3) := by decide +kernel
theorem dX1_scanCell_111 : decode cX1_scanCell 111 = .ok (.aload_n 0, 1) := by decide +kernel
theorem dX1_scanCell_112 : decode cX1_scanCell 112 = .ok (.iload_n 1, 1) := by decide +kernel
theorem dX1_scanCell_113 : decode cX1_scanCell 113 = .ok (.iload_n 3, 1) := by decide +kernel
theorem dX1_scanCell_114 : decode cX1_scanCell 114 = .ok (.iload 4, 2) := by decide +kernel
theorem dX1_scanCell_116 : decode cX1_scanCell 116 = .ok (.iload 5, 2) := by decide +kernel
theorem dX1_scanCell_118 : decode cX1_scanCell 118 = .ok (.iconst 0, 1) := by decide +kernel
theorem dX1_scanCell_119 : decode cX1_scanCell 119 = .ok (.invokestatic 58, 3) := by decide +kernel
theorem dX1_scanCell_122 : decode cX1_scanCell 122 = .ok (.invokevirtual 46, 3) := by decide +kernel
theorem dX1_scanCell_125 : decode cX1_scanCell 125 = .ok (.goto 4, 3) := by decide +kernel
theorem dX1_scanCell_128 : decode cX1_scanCell 128 = .ok (.iload_n 2, 1) := by decide +kernel
theorem dX1_scanCell_129 : decode cX1_scanCell 129 = .ok (.ireturn, 1) := by decide +kernel
theorem dX1_addTerm_0 : decode cX1_addTerm 0 = .ok (.aload_n 0, 1) := by decide +kernel
theorem dX1_addTerm_1 : decode cX1_addTerm 1 = .ok (.getfield 25, 3) := by decide +kernel
theorem dX1_addTerm_4 : decode cX1_addTerm 4 = .ok (.bipush 60, 2) := by decide +kernel
theorem dX1_addTerm_6 : decode cX1_addTerm 6 = .ok (.if_icmp .ge 33, 3) := by decide +kernel
theorem dX1_addTerm_9 : decode cX1_addTerm 9 = .ok (.aload_n 0, 1) := by decide +kernel
theorem dX1_addTerm_10 : decode cX1_addTerm 10 = .ok (.getfield 19, 3) := by decide +kernel
theorem dX1_addTerm_13 : decode cX1_addTerm 13 = .ok (.aload_n 0, 1) := by decide +kernel
theorem dX1_addTerm_14 : decode cX1_addTerm 14 = .ok (.getfield 25, 3) := by decide +kernel
theorem dX1_addTerm_17 : decode cX1_addTerm 17 = .ok (.iload_n 1, 1) := by decide +kernel
theorem dX1_addTerm_18 : decode cX1_addTerm 18 = .ok (.iastore, 1) := by decide +kernel
theorem dX1_addTerm_19 : decode cX1_addTerm 19 = .ok (.aload_n 0, 1) := by decide +kernel
theorem dX1_addTerm_20 : decode cX1_addTerm 20 = .ok (.getfield 22, 3) := by decide +kernel
theorem dX1_addTerm_23 : decode cX1_addTerm 23 = .ok (.aload_n 0, 1) := by decide +kernel
theorem dX1_addTerm_24 : decode cX1_addTerm 24 = .ok (.getfield 25, 3) := by decide +kernel
theorem dX1_addTerm_27 : decode cX1_addTerm 27 = .ok (.iload_n 2, 1) := by decide +kernel
theorem dX1_addTerm_28 : decode cX1_addTerm 28 = .ok (.iastore, 1) := by decide +kernel
theorem dX1_addTerm_29 : decode cX1_addTerm 29 = .ok (.aload_n 0, 1) := by decide +kernel
theorem dX1_addTerm_30 : decode cX1_addTerm 30 = .ok (.dup, 1) := by decide +kernel
theorem dX1_addTerm_31 : decode cX1_addTerm 31 = .ok (.getfield 25, 3) := by decide +kernel
theorem dX1_addTerm_34 : decode cX1_addTerm 34 = .ok (.iconst 1, 1) := by decide +kernel
theorem dX1_addTerm_35 : decode cX1_addTerm 35 = .ok (.iadd, 1) := by decide +kernel
theorem dX1_addTerm_36 : decode cX1_addTerm 36 = .ok (.putfield 25, 3) := by decide +kernel
theorem dX1_addTerm_39 : decode cX1_addTerm 39 = .ok (.iconst (-1), 1) := by decide +kernel
theorem dX1_addTerm_40 : decode cX1_addTerm 40 = .ok (.ireturn, 1) := by decide +kernel
theorem dX1_isNext_0 : decode cX1_isNext 0 = .ok (.aload_n 0, 1) := by decide +kernel
theorem dX1_isNext_1 : decode cX1_isNext 1 = .ok (.getfield 28, 3) := by decide +kernel
theorem dX1_isNext_4 : decode cX1_isNext 4 = .ok (.aload_n 0, 1) := by decide +kernel
theorem dX1_isNext_5 : decode cX1_isNext 5 = .ok (.getfield 15, 3) := by decide +kernel
theorem dX1_isNext_8 : decode cX1_isNext 8 = .ok (.if_icmp .ge 20, 3) := by decide +kernel
theorem dX1_isNext_11 : decode cX1_isNext 11 = .ok (.aload_n 0, 1) := by decide +kernel
theorem dX1_isNext_12 : decode cX1_isNext 12 = .ok (.getfield 9, 3) := by decide +kernel
theorem dX1_isNext_15 : decode cX1_isNext 15 = .ok (.aload_n 0, 1) := by decide +kernel
theorem dX1_isNext_16 : decode cX1_isNext 16 = .ok (.getfield 28, 3) := by decide +kernel
theorem dX1_isNext_19 : decode cX1_isNext 19 = .ok (.iaload, 1) := by decide +kernel
theorem dX1_isNext_20 : decode cX1_isNext 20 = .ok (.iload_n 1, 1) := by decide +kernel
theorem dX1_isNext_21 : decode cX1_isNext 21 = .ok (.if_icmp .ne 7, 3) := by decide +kernel
theorem dX1_isNext_24 : decode cX1_isNext 24 = .ok (.iconst 1, 1) := by decide +kernel
theorem dX1_isNext_25 : decode cX1_isNext 25 = .ok (.goto 4, 3) := by decide +kernel
theorem dX1_isNext_28 : decode cX1_isNext 28 = .ok (.iconst 0, 1) := by decide +kernel
theorem dX1_isNext_29 : decode cX1_isNext 29 = .ok (.ireturn, 1) := by decide +kernel
theorem dX1_isFigureNext_0 : decode cX1_isFigureNext 0 = .ok (.aload_n 0, 1) := by decide +kernel
theorem dX1_isFigureNext_1 : decode cX1_isFigureNext 1 = .ok (.getfield 28, 3) := by decide +kernel
theorem dX1_isFigureNext_4 : decode cX1_isFigureNext 4 = .ok (.aload_n 0, 1) := by decide +kernel
theorem dX1_isFigureNext_5 : decode cX1_isFigureNext 5 = .ok (.getfield 15, 3) := by decide +kernel
theorem dX1_isFigureNext_8 : decode cX1_isFigureNext 8 = .ok (.if_icmp .ge 26, 3) := by decide +kernel
theorem dX1_isFigureNext_11 : decode cX1_isFigureNext 11 = .ok (.aload_n 0, 1) := by decide +kernel
theorem dX1_isFigureNext_12 : decode cX1_isFigureNext 12 = .ok (.getfield 9, 3) := by decide +kernel
theorem dX1_isFigureNext_15 : decode cX1_isFigureNext 15 = .ok (.aload_n 0, 1) := by decide +kernel
theorem dX1_isFigureNext_16 : decode cX1_isFigureNext 16 = .ok (.getfield 28, 3) := by decide +kernel
theorem dX1_isFigureNext_19 : decode cX1_isFigureNext 19 = .ok (.iaload, 1) := by decide +kernel
theorem dX1_isFigureNext_20 : decode cX1_isFigureNext 20 = .ok (.bipush 48, 2) := by decide +kernel
theorem dX1_isFigureNext_22 : decode cX1_isFigureNext 22 = .ok (.bipush 57, 2) := by decide +kernel
theorem dX1_isFigureNext_24 : decode cX1_isFigureNext 24 = .ok (.invokestatic 62, 3) := by decide +kernel
theorem dX1_isFigureNext_27 : decode cX1_isFigureNext 27 = .ok (.ifCond .eq 7, 3) := by decide +kernel
theorem dX1_isFigureNext_30 : decode cX1_isFigureNext 30 = .ok (.iconst 1, 1) := by decide +kernel
theorem dX1_isFigureNext_31 : decode cX1_isFigureNext 31 = .ok (.goto 4, 3) := by decide +kernel
theorem dX1_isFigureNext_34 : decode cX1_isFigureNext 34 = .ok (.iconst 0, 1) := by decide +kernel
theorem dX1_isFigureNext_35 : decode cX1_isFigureNext 35 = .ok (.ireturn, 1) := by decide +kernel
theorem dX1_leftOver_0 : decode cX1_leftOver 0 = .ok (.lconst 0, 1) := by decide +kernel
theorem dX1_leftOver_1 : decode cX1_leftOver 1 = .ok (.lstore_n 3, 1) := by decide +kernel
theorem dX1_leftOver_2 : decode cX1_leftOver 2 = .ok (.iconst 0, 1) := by decide +kernel
theorem dX1_leftOver_3 : decode cX1_leftOver 3 = .ok (.istore 5, 2) := by decide +kernel
theorem dX1_leftOver_5 : decode cX1_leftOver 5 = .ok (.iload 5, 2) := by decide +kernel
theorem dX1_leftOver_7 : decode cX1_leftOver 7 = .ok (.aload_n 0, 1) := by decide +kernel
theorem dX1_leftOver_8 : decode cX1_leftOver 8 = .ok (.getfield 25, 3) := by decide +kernel
theorem dX1_leftOver_11 : decode cX1_leftOver 11 = .ok (.if_icmp .ge 54, 3) := by decide +kernel
theorem dX1_leftOver_14 : decode cX1_leftOver 14 = .ok (.lload_n 3, 1) := by decide +kernel
theorem dX1_leftOver_15 : decode cX1_leftOver 15 = .ok (.aload_n 0, 1) := by decide +kernel
theorem dX1_leftOver_16 : decode cX1_leftOver 16 = .ok (.getfield 22, 3) := by decide +kernel
theorem dX1_leftOver_19 : decode cX1_leftOver 19 = .ok (.iload 5, 2) := by decide +kernel
theorem dX1_leftOver_21 : decode cX1_leftOver 21 = .ok (.iaload, 1) := by decide +kernel
theorem dX1_leftOver_22 : decode cX1_leftOver 22 = .ok (.iconst (-1), 1) := by decide +kernel
theorem dX1_leftOver_23 : decode cX1_leftOver 23 = .ok (.if_icmp .ne 14, 3) := by decide +kernel
theorem dX1_leftOver_26 : decode cX1_leftOver 26 = .ok (.aload_n 0, 1) := by decide +kernel
theorem dX1_leftOver_27 : decode cX1_leftOver 27 = .ok (.getfield 19, 3) := by decide +kernel
theorem dX1_leftOver_30 : decode cX1_leftOver 30 = .ok (.iload 5, 2) := by decide +kernel
theorem dX1_leftOver_32 : decode cX1_leftOver 32 = .ok (.iaload, 1) := by decide +kernel
theorem dX1_leftOver_33 : decode cX1_leftOver 33 = .ok (.i2l, 1) := by decide +kernel
theorem dX1_leftOver_34 : decode cX1_leftOver 34 = .ok (.goto 23, 3) := by decide +kernel
theorem dX1_leftOver_37 : decode cX1_leftOver 37 = .ok (.aload_n 0, 1) := by decide +kernel
theorem dX1_leftOver_38 : decode cX1_leftOver 38 = .ok (.getfield 19, 3) := by decide +kernel
theorem dX1_leftOver_41 : decode cX1_leftOver 41 = .ok (.iload 5, 2) := by decide +kernel
theorem dX1_leftOver_43 : decode cX1_leftOver 43 = .ok (.iaload, 1) := by decide +kernel
theorem dX1_leftOver_44 : decode cX1_leftOver 44 = .ok (.i2l, 1) := by decide +kernel
theorem dX1_leftOver_45 : decode cX1_leftOver 45 = .ok (.aload_n 1, 1) := by decide +kernel
theorem dX1_leftOver_46 : decode cX1_leftOver 46 = .ok (.aload_n 0, 1) := by decide +kernel
theorem dX1_leftOver_47 : decode cX1_leftOver 47 = .ok (.getfield 22, 3) := by decide +kernel
theorem dX1_leftOver_50 : decode cX1_leftOver 50 = .ok (.iload 5, 2) := by decide +kernel
theorem dX1_leftOver_52 : decode cX1_leftOver 52 = .ok (.iaload, 1) := by decide +kernel
theorem dX1_leftOver_53 : decode cX1_leftOver 53 = .ok (.iload_n 2, 1) := by decide +kernel
theorem dX1_leftOver_54 : decode cX1_leftOver 54 = .ok (.iadd, 1) := by decide +kernel
theorem dX1_leftOver_55 : decode cX1_leftOver 55 = .ok (.laload, 1) := by decide +kernel
theorem dX1_leftOver_56 : decode cX1_leftOver 56 = .ok (.lmul, 1) := by decide +kernel
theorem dX1_leftOver_57 : decode cX1_leftOver 57 = .ok (.ladd, 1) := by decide +kernel
theorem dX1_leftOver_58 : decode cX1_leftOver 58 = .ok (.lstore_n 3, 1) := by decide +kernel
theorem dX1_leftOver_59 : decode cX1_leftOver 59 = .ok (.iinc 5 1, 3) := by decide +kernel
theorem dX1_leftOver_62 : decode cX1_leftOver 62 = .ok (.goto (-57), 3) := by decide +kernel
theorem dX1_leftOver_65 : decode cX1_leftOver 65 = .ok (.lload_n 3, 1) := by decide +kernel
theorem dX1_leftOver_66 : decode cX1_leftOver 66 = .ok (.lreturn, 1) := by decide +kernel
theorem dX2_init_0 : decode cX2_init 0 = .ok (.aload_n 0, 1) := by decide +kernel
theorem dX2_init_1 : decode cX2_init 1 = .ok (.invokespecial 3, 3) := by decide +kernel
theorem dX2_init_4 : decode cX2_init 4 = .ok (.aload_n 0, 1) := by decide +kernel
theorem dX2_init_5 : decode cX2_init 5 = .ok (.bipush 6, 2) := by decide +kernel
theorem dX2_init_7 : decode cX2_init 7 = .ok (.newarray .long, 2) := by decide +kernel
theorem dX2_init_9 : decode cX2_init 9 = .ok (.putfield 9, 3) := by decide +kernel
theorem dX2_init_12 : decode cX2_init 12 = .ok (.aload_n 0, 1) := by decide +kernel
theorem dX2_init_13 : decode cX2_init 13 = .ok (.bipush 6, 2) := by decide +kernel
theorem dX2_init_15 : decode cX2_init 15 = .ok (.newarray .long, 2) := by decide +kernel
theorem dX2_init_17 : decode cX2_init 17 = .ok (.putfield 15, 3) := by decide +kernel
theorem dX2_init_20 : decode cX2_init 20 = .ok (.aload_n 0, 1) := by decide +kernel
theorem dX2_init_21 : decode cX2_init 21 = .ok (.bipush 6, 2) := by decide +kernel
theorem dX2_init_23 : decode cX2_init 23 = .ok (.newarray .long, 2) := by decide +kernel
theorem dX2_init_25 : decode cX2_init 25 = .ok (.putfield 18, 3) := by decide +kernel
theorem dX2_init_28 : decode cX2_init 28 = .ok (.return_, 1) := by decide +kernel
theorem dX2_deal_0 : decode cX2_deal 0 = .ok (.lconst 0, 1) := by decide +kernel
theorem dX2_deal_1 : decode cX2_deal 1 = .ok (.lstore 4, 2) := by decide +kernel
theorem dX2_deal_3 : decode cX2_deal 3 = .ok (.iconst 0, 1) := by decide +kernel
theorem dX2_deal_4 : decode cX2_deal 4 = .ok (.istore 6, 2) := by decide +kernel
theorem dX2_deal_6 : decode cX2_deal 6 = .ok (.iload 6, 2) := by decide +kernel
theorem dX2_deal_8 : decode cX2_deal 8 = .ok (.iload_n 3, 1) := by decide +kernel
theorem dX2_deal_9 : decode cX2_deal 9 = .ok (.if_icmp .ge 21, 3) := by decide +kernel
theorem dX2_deal_12 : decode cX2_deal 12 = .ok (.lload 4, 2) := by decide +kernel
theorem dX2_deal_14 : decode cX2_deal 14 = .ok (.aload_n 0, 1) := by decide +kernel
theorem dX2_deal_15 : decode cX2_deal 15 = .ok (.getfield 9, 3) := by decide +kernel
theorem dX2_deal_18 : decode cX2_deal 18 = .ok (.iload 6, 2) := by decide +kernel
theorem dX2_deal_20 : decode cX2_deal 20 = .ok (.laload, 1) := by decide +kernel
theorem dX2_deal_21 : decode cX2_deal 21 = .ok (.ladd, 1) := by decide +kernel
theorem dX2_deal_22 : decode cX2_deal 22 = .ok (.lstore 4, 2) := by decide +kernel
theorem dX2_deal_24 : decode cX2_deal 24 = .ok (.iinc 6 1, 3) := by decide +kernel
theorem dX2_deal_27 : decode cX2_deal 27 = .ok (.goto (-21), 3) := by decide +kernel
theorem dX2_deal_30 : decode cX2_deal 30 = .ok (.lload_n 1, 1) := by decide +kernel
theorem dX2_deal_31 : decode cX2_deal 31 = .ok (.lstore 6, 2) := by decide +kernel
theorem dX2_deal_33 : decode cX2_deal 33 = .ok (.iconst 0, 1) := by decide +kernel
theorem dX2_deal_34 : decode cX2_deal 34 = .ok (.istore 8, 2) := by decide +kernel
theorem dX2_deal_36 : decode cX2_deal 36 = .ok (.iload 8, 2) := by decide +kernel
theorem dX2_deal_38 : decode cX2_deal 38 = .ok (.iload_n 3, 1) := by decide +kernel
theorem dX2_deal_39 : decode cX2_deal 39 = .ok (.if_icmp .ge 31, 3) := by decide +kernel
theorem dX2_deal_42 : decode cX2_deal 42 = .ok (.lload 6, 2) := by decide +kernel
theorem dX2_deal_44 : decode cX2_deal 44 = .ok (.aload_n 0, 1) := by decide +kernel
theorem dX2_deal_45 : decode cX2_deal 45 = .ok (.iload 8, 2) := by decide +kernel
theorem dX2_deal_47 : decode cX2_deal 47 = .ok (.lload_n 1, 1) := by decide +kernel
theorem dX2_deal_48 : decode cX2_deal 48 = .ok (.aload_n 0, 1) := by decide +kernel
theorem dX2_deal_49 : decode cX2_deal 49 = .ok (.getfield 9, 3) := by decide +kernel
theorem dX2_deal_52 : decode cX2_deal 52 = .ok (.iload 8, 2) := by decide +kernel
theorem dX2_deal_54 : decode cX2_deal 54 = .ok (.laload, 1) := by decide +kernel
theorem dX2_deal_55 : decode cX2_deal 55 = .ok (.lmul, 1) := by decide +kernel
theorem dX2_deal_56 : decode cX2_deal 56 = .ok (.lload 4, 2) := by decide +kernel
theorem dX2_deal_58 : decode cX2_deal 58 = .ok (.invokevirtual 21, 3) := by decide +kernel
theorem dX2_deal_61 : decode cX2_deal 61 = .ok (.lsub, 1) := by decide +kernel
theorem dX2_deal_62 : decode cX2_deal 62 = .ok (.lstore 6, 2) := by decide +kernel
theorem dX2_deal_64 : decode cX2_deal 64 = .ok (.iinc 8 1, 3) := by decide +kernel
theorem dX2_deal_67 : decode cX2_deal 67 = .ok (.goto (-31), 3) := by decide +kernel
theorem dX2_deal_70 : decode cX2_deal 70 = .ok (.lload 4, 2) := by decide +kernel
theorem dX2_deal_72 : decode cX2_deal 72 = .ok (.lconst 0, 1) := by decide +kernel
theorem dX2_deal_73 : decode cX2_deal 73 = .ok (.lcmp, 1) := by decide +kernel
theorem dX2_deal_74 : decode cX2_deal 74 = .ok (.ifCond .le 10, 3) := by decide +kernel
theorem dX2_deal_77 : decode cX2_deal 77 = .ok (.aload_n 0, 1) := by decide +kernel
theorem dX2_deal_78 : decode cX2_deal 78 = .ok (.lload 6, 2) := by decide +kernel
theorem dX2_deal_80 : decode cX2_deal 80 = .ok (.iload_n 3, 1) := by decide +kernel
theorem dX2_deal_81 : decode cX2_deal 81 = .ok (.invokevirtual 25, 3) := by decide +kernel
theorem dX2_deal_84 : decode cX2_deal 84 = .ok (.return_, 1) := by decide +kernel
theorem dX2_divide_0 : decode cX2_divide 0 = .ok (.aload_n 0, 1) := by decide +kernel
theorem dX2_divide_1 : decode cX2_divide 1 = .ok (.getfield 15, 3) := by decide +kernel
theorem dX2_divide_4 : decode cX2_divide 4 = .ok (.iload_n 1, 1) := by decide +kernel
theorem dX2_divide_5 : decode cX2_divide 5 = .ok (.lload 4, 2) := by decide +kernel
theorem dX2_divide_7 : decode cX2_divide 7 = .ok (.lconst 0, 1) := by decide +kernel
theorem dX2_divide_8 : decode cX2_divide 8 = .ok (.lcmp, 1) := by decide +kernel
theorem dX2_divide_9 : decode cX2_divide 9 = .ok (.ifCond .le 12, 3) := by decide +kernel
theorem dX2_divide_12 : decode cX2_divide 12 = .ok (.lload_n 2, 1) := by decide +kernel
theorem dX2_divide_13 : decode cX2_divide 13 = .ok (.lload 4, 2) := by decide +kernel
theorem dX2_divide_15 : decode cX2_divide 15 = .ok (.invokestatic 29, 3) := by decide +kernel
theorem dX2_divide_18 : decode cX2_divide 18 = .ok (.goto 4, 3) := by decide +kernel
theorem dX2_divide_21 : decode cX2_divide 21 = .ok (.lconst 0, 1) := by decide +kernel
theorem dX2_divide_22 : decode cX2_divide 22 = .ok (.lastore, 1) := by decide +kernel
theorem dX2_divide_23 : decode cX2_divide 23 = .ok (.aload_n 0, 1) := by decide +kernel
theorem dX2_divide_24 : decode cX2_divide 24 = .ok (.getfield 18, 3) := by decide +kernel
theorem dX2_divide_27 : decode cX2_divide 27 = .ok (.iload_n 1, 1) := by decide +kernel
theorem dX2_divide_28 : decode cX2_divide 28 = .ok (.lload 4, 2) := by decide +kernel
theorem dX2_divide_30 : decode cX2_divide 30 = .ok (.lconst 0, 1) := by decide +kernel
theorem dX2_divide_31 : decode cX2_divide 31 = .ok (.lcmp, 1) := by decide +kernel
theorem dX2_divide_32 : decode cX2_divide 32 = .ok (.ifCond .le 12, 3) := by decide +kernel
theorem dX2_divide_35 : decode cX2_divide 35 = .ok (.lload_n 2, 1) := by decide +kernel
theorem dX2_divide_36 : decode cX2_divide 36 = .ok (.lload 4, 2) := by decide +kernel
theorem dX2_divide_38 : decode cX2_divide 38 = .ok (.invokestatic 35, 3) := by decide +kernel
theorem dX2_divide_41 : decode cX2_divide 41 = .ok (.goto 4, 3) := by decide +kernel
theorem dX2_divide_44 : decode cX2_divide 44 = .ok (.lconst 0, 1) := by decide +kernel
theorem dX2_divide_45 : decode cX2_divide 45 = .ok (.lastore, 1) := by decide +kernel
theorem dX2_divide_46 : decode cX2_divide 46 = .ok (.aload_n 0, 1) := by decide +kernel
theorem dX2_divide_47 : decode cX2_divide 47 = .ok (.getfield 15, 3) := by decide +kernel
theorem dX2_divide_50 : decode cX2_divide 50 = .ok (.iload_n 1, 1) := by decide +kernel
theorem dX2_divide_51 : decode cX2_divide 51 = .ok (.laload, 1) := by decide +kernel
theorem dX2_divide_52 : decode cX2_divide 52 = .ok (.lreturn, 1) := by decide +kernel
theorem dX2_handOut_0 : decode cX2_handOut 0 = .ok (.iconst 0, 1) := by decide +kernel
theorem dX2_handOut_1 : decode cX2_handOut 1 = .ok (.istore 4, 2) := by decide +kernel
theorem dX2_handOut_3 : decode cX2_handOut 3 = .ok (.iload 4, 2) := by decide +kernel
theorem dX2_handOut_5 : decode cX2_handOut 5 = .ok (.i2l, 1) := by decide +kernel
theorem dX2_handOut_6 : decode cX2_handOut 6 = .ok (.lload_n 1, 1) := by decide +kernel
theorem dX2_handOut_7 : decode cX2_handOut 7 = .ok (.lcmp, 1) := by decide +kernel
theorem dX2_handOut_8 : decode cX2_handOut 8 = .ok (.ifCond .ge 76, 3) := by decide +kernel
theorem dX2_handOut_11 : decode cX2_handOut 11 = .ok (.iload 4, 2) := by decide +kernel
theorem dX2_handOut_13 : decode cX2_handOut 13 = .ok (.iload_n 3, 1) := by decide +kernel
theorem dX2_handOut_14 : decode cX2_handOut 14 = .ok (.if_icmp .ge 70, 3) := by decide +kernel
theorem dX2_handOut_17 : decode cX2_handOut 17 = .ok (.iconst 0, 1) := by decide +kernel
theorem dX2_handOut_18 : decode cX2_handOut 18 = .ok (.istore 5, 2) := by decide +kernel
theorem dX2_handOut_20 : decode cX2_handOut 20 = .ok (.iconst 1, 1) := by decide +kernel
theorem dX2_handOut_21 : decode cX2_handOut 21 = .ok (.istore 6, 2) := by decide +kernel
theorem dX2_handOut_23 : decode cX2_handOut 23 = .ok (.iload 6, 2) := by decide +kernel
theorem dX2_handOut_25 : decode cX2_handOut 25 = .ok (.iload_n 3, 1) := by decide +kernel
theorem dX2_handOut_26 : decode cX2_handOut 26 = .ok (.if_icmp .ge 31, 3) := by decide +kernel
theorem dX2_handOut_29 : decode cX2_handOut 29 = .ok (.aload_n 0, 1) := by decide +kernel
theorem dX2_handOut_30 : decode cX2_handOut 30 = .ok (.getfield 18, 3) := by decide +kernel
theorem dX2_handOut_33 : decode cX2_handOut 33 = .ok (.iload 6, 2) := by decide +kernel
theorem dX2_handOut_35 : decode cX2_handOut 35 = .ok (.laload, 1) := by decide +kernel
theorem dX2_handOut_36 : decode cX2_handOut 36 = .ok (.aload_n 0, 1) := by decide +kernel
theorem dX2_handOut_37 : decode cX2_handOut 37 = .ok (.getfield 18, 3) := by decide +kernel
theorem dX2_handOut_40 : decode cX2_handOut 40 = .ok (.iload 5, 2) := by decide +kernel
theorem dX2_handOut_42 : decode cX2_handOut 42 = .ok (.laload, 1) := by decide +kernel
theorem dX2_handOut_43 : decode cX2_handOut 43 = .ok (.lcmp, 1) := by decide +kernel
theorem dX2_handOut_44 : decode cX2_handOut 44 = .ok (.ifCond .le 7, 3) := by decide +kernel
theorem dX2_handOut_47 : decode cX2_handOut 47 = .ok (.iload 6, 2) := by decide +kernel
theorem dX2_handOut_49 : decode cX2_handOut 49 = .ok (.istore 5, 2) := by decide +kernel
theorem dX2_handOut_51 : decode cX2_handOut 51 = .ok (.iinc 6 1, 3) := by decide +kernel
theorem dX2_handOut_54 : decode cX2_handOut 54 = .ok (.goto (-31), 3) := by decide +kernel
theorem dX2_handOut_57 : decode cX2_handOut 57 = .ok (.aload_n 0, 1) := by decide +kernel
theorem dX2_handOut_58 : decode cX2_handOut 58 = .ok (.getfield 15, 3) := by decide +kernel
theorem dX2_handOut_61 : decode cX2_handOut 61 = .ok (.iload 5, 2) := by decide +kernel
theorem dX2_handOut_63 : decode cX2_handOut 63 = .ok (.dup2, 1) := by decide +kernel
theorem dX2_handOut_64 : decode cX2_handOut 64 = .ok (.laload, 1) := by decide +kernel
theorem dX2_handOut_65 : decode cX2_handOut 65 = .ok (.lconst 1, 1) := by decide +kernel
theorem dX2_handOut_66 : decode cX2_handOut 66 = .ok (.ladd, 1) := by decide +kernel
theorem dX2_handOut_67 : decode cX2_handOut 67 = .ok (.lastore, 1) := by decide +kernel
theorem dX2_handOut_68 : decode cX2_handOut 68 = .ok (.aload_n 0, 1) := by decide +kernel
theorem dX2_handOut_69 : decode cX2_handOut 69 = .ok (.getfield 18, 3) := by decide +kernel
theorem dX2_handOut_72 : decode cX2_handOut 72 = .ok (.iload 5, 2) := by decide +kernel
theorem dX2_handOut_74 : decode cX2_handOut 74 = .ok (.ldc2_w 38, 3) := by decide +kernel
theorem dX2_handOut_77 : decode cX2_handOut 77 = .ok (.lastore, 1) := by decide +kernel
theorem dX2_handOut_78 : decode cX2_handOut 78 = .ok (.iinc 4 1, 3) := by decide +kernel
theorem dX2_handOut_81 : decode cX2_handOut 81 = .ok (.goto (-78), 3) := by decide +kernel
theorem dX2_handOut_84 : decode cX2_handOut 84 = .ok (.return_, 1) := by decide +kernel
theorem dX3_init_0 : decode cX3_init 0 = .ok (.aload_n 0, 1) := by decide +kernel
theorem dX3_init_1 : decode cX3_init 1 = .ok (.invokespecial 3, 3) := by decide +kernel
theorem dX3_init_4 : decode cX3_init 4 = .ok (.aload_n 0, 1) := by decide +kernel
theorem dX3_init_5 : decode cX3_init 5 = .ok (.bipush 10, 2) := by decide +kernel
theorem dX3_init_7 : decode cX3_init 7 = .ok (.newarray .int, 2) := by decide +kernel
theorem dX3_init_9 : decode cX3_init 9 = .ok (.putfield 9, 3) := by decide +kernel
theorem dX3_init_12 : decode cX3_init 12 = .ok (.aload_n 0, 1) := by decide +kernel
theorem dX3_init_13 : decode cX3_init 13 = .ok (.bipush 80, 2) := by decide +kernel
theorem dX3_init_15 : decode cX3_init 15 = .ok (.newarray .int, 2) := by decide +kernel
theorem dX3_init_17 : decode cX3_init 17 = .ok (.putfield 15, 3) := by decide +kernel
theorem dX3_init_20 : decode cX3_init 20 = .ok (.aload_n 0, 1) := by decide +kernel
theorem dX3_init_21 : decode cX3_init 21 = .ok (.bipush 80, 2) := by decide +kernel
theorem dX3_init_23 : decode cX3_init 23 = .ok (.newarray .int, 2) := by decide +kernel
theorem dX3_init_25 : decode cX3_init 25 = .ok (.putfield 18, 3) := by decide +kernel
theorem dX3_init_28 : decode cX3_init 28 = .ok (.aload_n 0, 1) := by decide +kernel
theorem dX3_init_29 : decode cX3_init 29 = .ok (.bipush 80, 2) := by decide +kernel
theorem dX3_init_31 : decode cX3_init 31 = .ok (.newarray .int, 2) := by decide +kernel
theorem dX3_init_33 : decode cX3_init 33 = .ok (.putfield 21, 3) := by decide +kernel
theorem dX3_init_36 : decode cX3_init 36 = .ok (.aload_n 0, 1) := by decide +kernel
theorem dX3_init_37 : decode cX3_init 37 = .ok (.bipush 80, 2) := by decide +kernel
theorem dX3_init_39 : decode cX3_init 39 = .ok (.newarray .int, 2) := by decide +kernel
theorem dX3_init_41 : decode cX3_init 41 = .ok (.putfield 24, 3) := by decide +kernel
theorem dX3_init_44 : decode cX3_init 44 = .ok (.aload_n 0, 1) := by decide +kernel
theorem dX3_init_45 : decode cX3_init 45 = .ok (.sipush 720, 3) := by decide +kernel
theorem dX3_init_48 : decode cX3_init 48 = .ok (.newarray .int, 2) := by decide +kernel
theorem dX3_init_50 : decode cX3_init 50 = .ok (.putfield 27, 3) := by decide +kernel
theorem dX3_init_53 : decode cX3_init 53 = .ok (.aload_n 0, 1) := by decide +kernel
theorem dX3_init_54 : decode cX3_init 54 = .ok (.bipush 80, 2) := by decide +kernel
theorem dX3_init_56 : decode cX3_init 56 = .ok (.newarray .int, 2) := by decide +kernel
theorem dX3_init_58 : decode cX3_init 58 = .ok (.putfield 30, 3) := by decide +kernel
theorem dX3_init_61 : decode cX3_init 61 = .ok (.aload_n 0, 1) := by decide +kernel
theorem dX3_init_62 : decode cX3_init 62 = .ok (.bipush 10, 2) := by decide +kernel
theorem dX3_init_64 : decode cX3_init 64 = .ok (.newarray .int, 2) := by decide +kernel
theorem dX3_init_66 : decode cX3_init 66 = .ok (.putfield 33, 3) := by decide +kernel
theorem dX3_init_69 : decode cX3_init 69 = .ok (.aload_n 0, 1) := by decide +kernel
theorem dX3_init_70 : decode cX3_init 70 = .ok (.iconst 0, 1) := by decide +kernel
theorem dX3_init_71 : decode cX3_init 71 = .ok (.putfield 36, 3) := by decide +kernel
theorem dX3_init_74 : decode cX3_init 74 = .ok (.aload_n 0, 1) := by decide +kernel
theorem dX3_init_75 : decode cX3_init 75 = .ok (.bipush 9, 2) := by decide +kernel
theorem dX3_init_77 : decode cX3_init 77 = .ok (.putfield 40, 3) := by decide +kernel
theorem dX3_init_80 : decode cX3_init 80 = .ok (.aload_n 0, 1) := by decide +kernel
theorem dX3_init_81 : decode cX3_init 81 = .ok (.iconst 0, 1) := by decide +kernel
theorem dX3_init_82 : decode cX3_init 82 = .ok (.putfield 43, 3) := by decide +kernel
theorem dX3_init_85 : decode cX3_init 85 = .ok (.aload_n 0, 1) := by decide +kernel
theorem dX3_init_86 : decode cX3_init 86 = .ok (.iconst 0, 1) := by decide +kernel
theorem dX3_init_87 : decode cX3_init 87 = .ok (.putfield 46, 3) := by decide +kernel
theorem dX3_init_90 : decode cX3_init 90 = .ok (.aload_n 0, 1) := by decide +kernel
theorem dX3_init_91 : decode cX3_init 91 = .ok (.getfield 9, 3) := by decide +kernel
theorem dX3_init_94 : decode cX3_init 94 = .ok (.iconst 1, 1) := by decide +kernel
theorem dX3_init_95 : decode cX3_init 95 = .ok (.invokestatic 49, 3) := by decide +kernel
theorem dX3_init_98 : decode cX3_init 98 = .ok (.aload_n 0, 1) := by decide +kernel
theorem dX3_init_99 : decode cX3_init 99 = .ok (.getfield 27, 3) := by decide +kernel
theorem dX3_init_102 : decode cX3_init 102 = .ok (.iconst (-1), 1) := by decide +kernel
theorem dX3_init_103 : decode cX3_init 103 = .ok (.invokestatic 49, 3) := by decide +kernel
theorem dX3_init_106 : decode cX3_init 106 = .ok (.return_, 1) := by decide +kernel
theorem dX3_append_0 : decode cX3_append 0 = .ok (.aload_n 0, 1) := by decide +kernel
theorem dX3_append_1 : decode cX3_append 1 = .ok (.getfield 36, 3) := by decide +kernel
theorem dX3_append_4 : decode cX3_append 4 = .ok (.istore 5, 2) := by decide +kernel
theorem dX3_append_6 : decode cX3_append 6 = .ok (.aload_n 0, 1) := by decide +kernel
theorem dX3_append_7 : decode cX3_append 7 = .ok (.getfield 15, 3) := by decide +kernel
theorem dX3_append_10 : decode cX3_append 10 = .ok (.iload 5, 2) := by decide +kernel
theorem dX3_append_12 : decode cX3_append 12 = .ok (.iload_n 1, 1) := by decide +kernel
theorem dX3_append_13 : decode cX3_append 13 = .ok (.iastore, 1) := by decide +kernel
theorem dX3_append_14 : decode cX3_append 14 = .ok (.aload_n 0, 1) := by decide +kernel
theorem dX3_append_15 : decode cX3_append 15 = .ok (.getfield 18, 3) := by decide +kernel
theorem dX3_append_18 : decode cX3_append 18 = .ok (.iload 5, 2) := by decide +kernel
theorem dX3_append_20 : decode cX3_append 20 = .ok (.iload_n 2, 1) := by decide +kernel
theorem dX3_append_21 : decode cX3_append 21 = .ok (.iastore, 1) := by decide +kernel
theorem dX3_append_22 : decode cX3_append 22 = .ok (.aload_n 0, 1) := by decide +kernel
theorem dX3_append_23 : decode cX3_append 23 = .ok (.getfield 21, 3) := by decide +kernel
theorem dX3_append_26 : decode cX3_append 26 = .ok (.iload 5, 2) := by decide +kernel
theorem dX3_append_28 : decode cX3_append 28 = .ok (.iload_n 3, 1) := by decide +kernel
theorem dX3_append_29 : decode cX3_append 29 = .ok (.iastore, 1) := by decide +kernel
theorem dX3_append_30 : decode cX3_append 30 = .ok (.aload_n 0, 1) := by decide +kernel
theorem dX3_append_31 : decode cX3_append 31 = .ok (.getfield 24, 3) := by decide +kernel
theorem dX3_append_34 : decode cX3_append 34 = .ok (.iload 5, 2) := by decide +kernel
theorem dX3_append_36 : decode cX3_append 36 = .ok (.iload 4, 2) := by decide +kernel
theorem dX3_append_38 : decode cX3_append 38 = .ok (.iastore, 1) := by decide +kernel
theorem dX3_append_39 : decode cX3_append 39 = .ok (.aload_n 0, 1) := by decide +kernel
theorem dX3_append_40 : decode cX3_append 40 = .ok (.getfield 30, 3) := by decide +kernel
theorem dX3_append_43 : decode cX3_append 43 = .ok (.iload 5, 2) := by decide +kernel
theorem dX3_append_45 : decode cX3_append 45 = .ok (.aload_n 0, 1) := by decide +kernel
theorem dX3_append_46 : decode cX3_append 46 = .ok (.getfield 27, 3) := by decide +kernel
theorem dX3_append_49 : decode cX3_append 49 = .ok (.iload_n 2, 1) := by decide +kernel
theorem dX3_append_50 : decode cX3_append 50 = .ok (.iaload, 1) := by decide +kernel
theorem dX3_append_51 : decode cX3_append 51 = .ok (.iastore, 1) := by decide +kernel
theorem dX3_append_52 : decode cX3_append 52 = .ok (.aload_n 0, 1) := by decide +kernel
theorem dX3_append_53 : decode cX3_append 53 = .ok (.getfield 27, 3) := by decide +kernel
theorem dX3_append_56 : decode cX3_append 56 = .ok (.iload_n 2, 1) := by decide +kernel
theorem dX3_append_57 : decode cX3_append 57 = .ok (.iload 5, 2) := by decide +kernel
theorem dX3_append_59 : decode cX3_append 59 = .ok (.iastore, 1) := by decide +kernel
theorem dX3_append_60 : decode cX3_append 60 = .ok (.aload_n 0, 1) := by decide +kernel
theorem dX3_append_61 : decode cX3_append 61 = .ok (.dup, 1) := by decide +kernel
theorem dX3_append_62 : decode cX3_append 62 = .ok (.getfield 36, 3) := by decide +kernel
theorem dX3_append_65 : decode cX3_append 65 = .ok (.iconst 1, 1) := by decide +kernel
theorem dX3_append_66 : decode cX3_append 66 = .ok (.iadd, 1) := by decide +kernel
theorem dX3_append_67 : decode cX3_append 67 = .ok (.putfield 36, 3) := by decide +kernel
theorem dX3_append_70 : decode cX3_append 70 = .ok (.iload 5, 2) := by decide +kernel
theorem dX3_append_72 : decode cX3_append 72 = .ok (.ireturn, 1) := by decide +kernel
theorem dX3_pick_0 : decode cX3_pick 0 = .ok (.aload_n 0, 1) := by decide +kernel
theorem dX3_pick_1 : decode cX3_pick 1 = .ok (.getfield 33, 3) := by decide +kernel
theorem dX3_pick_4 : decode cX3_pick 4 = .ok (.iconst (-1), 1) := by decide +kernel
theorem dX3_pick_5 : decode cX3_pick 5 = .ok (.invokestatic 49, 3) := by decide +kernel
theorem dX3_pick_8 : decode cX3_pick 8 = .ok (.aload_n 0, 1) := by decide +kernel
theorem dX3_pick_9 : decode cX3_pick 9 = .ok (.getfield 27, 3) := by decide +kernel
theorem dX3_pick_12 : decode cX3_pick 12 = .ok (.iload_n 1, 1) := by decide +kernel
theorem dX3_pick_13 : decode cX3_pick 13 = .ok (.iaload, 1) := by decide +kernel
theorem dX3_pick_14 : decode cX3_pick 14 = .ok (.istore 4, 2) := by decide +kernel
theorem dX3_pick_16 : decode cX3_pick 16 = .ok (.iconst 0, 1) := by decide +kernel
theorem dX3_pick_17 : decode cX3_pick 17 = .ok (.istore 5, 2) := by decide +kernel
theorem dX3_pick_19 : decode cX3_pick 19 = .ok (.iload 5, 2) := by decide +kernel
theorem dX3_pick_21 : decode cX3_pick 21 = .ok (.bipush 80, 2) := by decide +kernel
theorem dX3_pick_23 : decode cX3_pick 23 = .ok (.if_icmp .ge 109, 3) := by decide +kernel
theorem dX3_pick_26 : decode cX3_pick 26 = .ok (.iload 4, 2) := by decide +kernel
theorem dX3_pick_28 : decode cX3_pick 28 = .ok (.iconst (-1), 1) := by decide +kernel
theorem dX3_pick_29 : decode cX3_pick 29 = .ok (.if_icmp .eq 103, 3) := by decide +kernel
theorem dX3_pick_32 : decode cX3_pick 32 = .ok (.aload_n 0, 1) := by decide +kernel
theorem dX3_pick_33 : decode cX3_pick 33 = .ok (.getfield 15, 3) := by decide +kernel
theorem dX3_pick_36 : decode cX3_pick 36 = .ok (.iload 4, 2) := by decide +kernel
theorem dX3_pick_38 : decode cX3_pick 38 = .ok (.iaload, 1) := by decide +kernel
theorem dX3_pick_39 : decode cX3_pick 39 = .ok (.istore 6, 2) := by decide +kernel
theorem dX3_pick_41 : decode cX3_pick 41 = .ok (.aload_n 0, 1) := by decide +kernel
theorem dX3_pick_42 : decode cX3_pick 42 = .ok (.getfield 24, 3) := by decide +kernel
theorem dX3_pick_45 : decode cX3_pick 45 = .ok (.iload 4, 2) := by decide +kernel
theorem dX3_pick_47 : decode cX3_pick 47 = .ok (.iaload, 1) := by decide +kernel
theorem dX3_pick_48 : decode cX3_pick 48 = .ok (.istore 7, 2) := by decide +kernel
theorem dX3_pick_50 : decode cX3_pick 50 = .ok (.iload 7, 2) := by decide +kernel
theorem dX3_pick_52 : decode cX3_pick 52 = .ok (.iload_n 2, 1) := by decide +kernel
theorem dX3_pick_53 : decode cX3_pick 53 = .ok (.if_icmp .lt 15, 3) := by decide +kernel
theorem dX3_pick_56 : decode cX3_pick 56 = .ok (.iload 7, 2) := by decide +kernel
theorem dX3_pick_58 : decode cX3_pick 58 = .ok (.iload_n 2, 1) := by decide +kernel
theorem dX3_pick_59 : decode cX3_pick 59 = .ok (.if_icmp .ne 13, 3) := by decide +kernel
theorem dX3_pick_62 : decode cX3_pick 62 = .ok (.iload 6, 2) := by decide +kernel
theorem dX3_pick_64 : decode cX3_pick 64 = .ok (.iload_n 3, 1) := by decide +kernel
theorem dX3_pick_65 : decode cX3_pick 65 = .ok (.if_icmp .gt 7, 3) := by decide +kernel
theorem dX3_pick_68 : decode cX3_pick 68 = .ok (.iconst 1, 1) := by decide +kernel
theorem dX3_pick_69 : decode cX3_pick 69 = .ok (.goto 4, 3) := by decide +kernel
theorem dX3_pick_72 : decode cX3_pick 72 = .ok (.iconst 0, 1) := by decide +kernel
theorem dX3_pick_73 : decode cX3_pick 73 = .ok (.istore 8, 2) := by decide +kernel
theorem dX3_pick_75 : decode cX3_pick 75 = .ok (.iload 8, 2) := by decide +kernel
theorem dX3_pick_77 : decode cX3_pick 77 = .ok (.ifCond .eq 40, 3) := by decide +kernel
theorem dX3_pick_80 : decode cX3_pick 80 = .ok (.aload_n 0, 1) := by decide +kernel
theorem dX3_pick_81 : decode cX3_pick 81 = .ok (.getfield 33, 3) := by decide +kernel
theorem dX3_pick_84 : decode cX3_pick 84 = .ok (.iload 6, 2) := by decide +kernel
theorem dX3_pick_86 : decode cX3_pick 86 = .ok (.iaload, 1) := by decide +kernel
theorem dX3_pick_87 : decode cX3_pick 87 = .ok (.iconst (-1), 1) := by decide +kernel
theorem dX3_pick_88 : decode cX3_pick 88 = .ok (.if_icmp .eq 20, 3) := by decide +kernel
theorem dX3_pick_91 : decode cX3_pick 91 = .ok (.iload 7, 2) := by decide +kernel
theorem dX3_pick_93 : decode cX3_pick 93 = .ok (.aload_n 0, 1) := by decide +kernel
theorem dX3_pick_94 : decode cX3_pick 94 = .ok (.getfield 24, 3) := by decide +kernel
theorem dX3_pick_97 : decode cX3_pick 97 = .ok (.aload_n 0, 1) := by decide +kernel
theorem dX3_pick_98 : decode cX3_pick 98 = .ok (.getfield 33, 3) := by decide +kernel
theorem dX3_pick_101 : decode cX3_pick 101 = .ok (.iload 6, 2) := by decide +kernel
theorem dX3_pick_103 : decode cX3_pick 103 = .ok (.iaload, 1) := by decide +kernel
theorem dX3_pick_104 : decode cX3_pick 104 = .ok (.iaload, 1) := by decide +kernel
theorem dX3_pick_105 : decode cX3_pick 105 = .ok (.if_icmp .le 12, 3) := by decide +kernel
theorem dX3_pick_108 : decode cX3_pick 108 = .ok (.aload_n 0, 1) := by decide +kernel
theorem dX3_pick_109 : decode cX3_pick 109 = .ok (.getfield 33, 3) := by decide +kernel
theorem dX3_pick_112 : decode cX3_pick 112 = .ok (.iload 6, 2) := by decide +kernel
theorem dX3_pick_114 : decode cX3_pick 114 = .ok (.iload 4, 2) := by decide +kernel
theorem dX3_pick_116 : decode cX3_pick 116 = .ok (.iastore, 1) := by decide +kernel
theorem dX3_pick_117 : decode cX3_pick 117 = .ok (.aload_n 0, 1) := by decide +kernel
theorem dX3_pick_118 : decode cX3_pick 118 = .ok (.getfield 30, 3) := by decide +kernel
theorem dX3_pick_121 : decode cX3_pick 121 = .ok (.iload 4, 2) := by decide +kernel
theorem dX3_pick_123 : decode cX3_pick 123 = .ok (.iaload, 1) := by decide +kernel
theorem dX3_pick_124 : decode cX3_pick 124 = .ok (.istore 4, 2) := by decide +kernel
theorem dX3_pick_126 : decode cX3_pick 126 = .ok (.iinc 5 1, 3) := by decide +kernel
theorem dX3_pick_129 : decode cX3_pick 129 = .ok (.goto (-110), 3) := by decide +kernel
theorem dX3_pick_132 : decode cX3_pick 132 = .ok (.return_, 1) := by decide +kernel
theorem dX3_tally_0 : decode cX3_tally 0 = .ok (.aload_n 0, 1) := by decide +kernel
theorem dX3_tally_1 : decode cX3_tally 1 = .ok (.iconst 0, 1) := by decide +kernel
theorem dX3_tally_2 : decode cX3_tally 2 = .ok (.putfield 43, 3) := by decide +kernel
theorem dX3_tally_5 : decode cX3_tally 5 = .ok (.aload_n 0, 1) := by decide +kernel
theorem dX3_tally_6 : decode cX3_tally 6 = .ok (.iconst 0, 1) := by decide +kernel
theorem dX3_tally_7 : decode cX3_tally 7 = .ok (.putfield 46, 3) := by decide +kernel
theorem dX3_tally_10 : decode cX3_tally 10 = .ok (.aload_n 0, 1) := by decide +kernel
theorem dX3_tally_11 : decode cX3_tally 11 = .ok (.getfield 27, 3) := by decide +kernel
theorem dX3_tally_14 : decode cX3_tally 14 = .ok (.iload_n 1, 1) := by decide +kernel
theorem dX3_tally_15 : decode cX3_tally 15 = .ok (.iaload, 1) := by decide +kernel
theorem dX3_tally_16 : decode cX3_tally 16 = .ok (.iconst (-1), 1) := by decide +kernel
theorem dX3_tally_17 : decode cX3_tally 17 = .ok (.if_icmp .ne 4, 3) := by decide +kernel
theorem dX3_tally_20 : decode cX3_tally 20 = .ok (.return_, 1) := by decide +kernel
theorem dX3_tally_21 : decode cX3_tally 21 = .ok (.aload_n 0, 1) := by decide +kernel
theorem dX3_tally_22 : decode cX3_tally 22 = .ok (.iload_n 1, 1) := by decide +kernel
theorem dX3_tally_23 : decode cX3_tally 23 = .ok (.iload_n 2, 1) := by decide +kernel
theorem dX3_tally_24 : decode cX3_tally 24 = .ok (.iload_n 3, 1) := by decide +kernel
theorem dX3_tally_25 : decode cX3_tally 25 = .ok (.invokevirtual 55, 3) := by decide +kernel
theorem dX3_tally_28 : decode cX3_tally 28 = .ok (.iconst 0, 1) := by decide +kernel
theorem dX3_tally_29 : decode cX3_tally 29 = .ok (.istore 4, 2) := by decide +kernel
theorem dX3_tally_31 : decode cX3_tally 31 = .ok (.iconst 0, 1) := by decide +kernel
theorem dX3_tally_32 : decode cX3_tally 32 = .ok (.istore 5, 2) := by decide +kernel
theorem dX3_tally_34 : decode cX3_tally 34 = .ok (.iload 5, 2) := by decide +kernel
theorem dX3_tally_36 : decode cX3_tally 36 = .ok (.bipush 10, 2) := by decide +kernel
theorem dX3_tally_38 : decode cX3_tally 38 = .ok (.if_icmp .ge 61, 3) := by decide +kernel
theorem dX3_tally_41 : decode cX3_tally 41 = .ok (.aload_n 0, 1) := by decide +kernel
theorem dX3_tally_42 : decode cX3_tally 42 = .ok (.getfield 33, 3) := by decide +kernel
theorem dX3_tally_45 : decode cX3_tally 45 = .ok (.iload 5, 2) := by decide +kernel
theorem dX3_tally_47 : decode cX3_tally 47 = .ok (.iaload, 1) := by decide +kernel
theorem dX3_tally_48 : decode cX3_tally 48 = .ok (.iconst (-1), 1) := by decide +kernel
theorem dX3_tally_49 : decode cX3_tally 49 = .ok (.if_icmp .eq 44, 3) := by decide +kernel
theorem dX3_tally_52 : decode cX3_tally 52 = .ok (.aload_n 0, 1) := by decide +kernel
theorem dX3_tally_53 : decode cX3_tally 53 = .ok (.dup, 1) := by decide +kernel
theorem dX3_tally_54 : decode cX3_tally 54 = .ok (.getfield 43, 3) := by decide +kernel
theorem dX3_tally_57 : decode cX3_tally 57 = .ok (.aload_n 0, 1) := by decide +kernel
theorem dX3_tally_58 : decode cX3_tally 58 = .ok (.getfield 9, 3) := by decide +kernel
theorem dX3_tally_61 : decode cX3_tally 61 = .ok (.iload 5, 2) := by decide +kernel
theorem dX3_tally_63 : decode cX3_tally 63 = .ok (.iaload, 1) := by decide +kernel
theorem dX3_tally_64 : decode cX3_tally 64 = .ok (.iadd, 1) := by decide +kernel
theorem dX3_tally_65 : decode cX3_tally 65 = .ok (.putfield 43, 3) := by decide +kernel
theorem dX3_tally_68 : decode cX3_tally 68 = .ok (.iload 4, 2) := by decide +kernel
theorem dX3_tally_70 : decode cX3_tally 70 = .ok (.aload_n 0, 1) := by decide +kernel
theorem dX3_tally_71 : decode cX3_tally 71 = .ok (.getfield 9, 3) := by decide +kernel
theorem dX3_tally_74 : decode cX3_tally 74 = .ok (.iload 5, 2) := by decide +kernel
theorem dX3_tally_76 : decode cX3_tally 76 = .ok (.iaload, 1) := by decide +kernel
theorem dX3_tally_77 : decode cX3_tally 77 = .ok (.aload_n 0, 1) := by decide +kernel
theorem dX3_tally_78 : decode cX3_tally 78 = .ok (.getfield 21, 3) := by decide +kernel
theorem dX3_tally_81 : decode cX3_tally 81 = .ok (.aload_n 0, 1) := by decide +kernel
theorem dX3_tally_82 : decode cX3_tally 82 = .ok (.getfield 33, 3) := by decide +kernel
theorem dX3_tally_85 : decode cX3_tally 85 = .ok (.iload 5, 2) := by decide +kernel
theorem dX3_tally_87 : decode cX3_tally 87 = .ok (.iaload, 1) := by decide +kernel
theorem dX3_tally_88 : decode cX3_tally 88 = .ok (.iaload, 1) := by decide +kernel
theorem dX3_tally_89 : decode cX3_tally 89 = .ok (.imul, 1) := by decide +kernel
theorem dX3_tally_90 : decode cX3_tally 90 = .ok (.iadd, 1) := by decide +kernel
theorem dX3_tally_91 : decode cX3_tally 91 = .ok (.istore 4, 2) := by decide +kernel
theorem dX3_tally_93 : decode cX3_tally 93 = .ok (.iinc 5 1, 3) := by decide +kernel
theorem dX3_tally_96 : decode cX3_tally 96 = .ok (.goto (-62), 3) := by decide +kernel
theorem dX3_tally_99 : decode cX3_tally 99 = .ok (.aload_n 0, 1) := by decide +kernel
theorem dX3_tally_100 : decode cX3_tally 100 = .ok (.getfield 43, 3) := by decide +kernel
theorem dX3_tally_103 : decode cX3_tally 103 = .ok (.ifCond .le 23, 3) := by decide +kernel
theorem dX3_tally_106 : decode cX3_tally 106 = .ok (.aload_n 0, 1) := by decide +kernel
theorem dX3_tally_107 : decode cX3_tally 107 = .ok (.iconst 2, 1) := by decide +kernel
theorem dX3_tally_108 : decode cX3_tally 108 = .ok (.iload 4, 2) := by decide +kernel
theorem dX3_tally_110 : decode cX3_tally 110 = .ok (.imul, 1) := by decide +kernel
theorem dX3_tally_111 : decode cX3_tally 111 = .ok (.aload_n 0, 1) := by decide +kernel
theorem dX3_tally_112 : decode cX3_tally 112 = .ok (.getfield 43, 3) := by decide +kernel
theorem dX3_tally_115 : decode cX3_tally 115 = .ok (.iadd, 1) := by decide +kernel
theorem dX3_tally_116 : decode cX3_tally 116 = .ok (.iconst 2, 1) := by decide +kernel
theorem dX3_tally_117 : decode cX3_tally 117 = .ok (.aload_n 0, 1) := by decide +kernel
theorem dX3_tally_118 : decode cX3_tally 118 = .ok (.getfield 43, 3) := by decide +kernel
theorem dX3_tally_121 : decode cX3_tally 121 = .ok (.imul, 1) := by decide +kernel
theorem dX3_tally_122 : decode cX3_tally 122 = .ok (.idiv, 1) := by decide +kernel
theorem dX3_tally_123 : decode cX3_tally 123 = .ok (.putfield 46, 3) := by decide +kernel
theorem dX3_tally_126 : decode cX3_tally 126 = .ok (.return_, 1) := by decide +kernel
theorem dX3_meanWith_0 : decode cX3_meanWith 0 = .ok (.aload_n 0, 1) := by decide +kernel
theorem dX3_meanWith_1 : decode cX3_meanWith 1 = .ok (.iload_n 1, 1) := by decide +kernel
theorem dX3_meanWith_2 : decode cX3_meanWith 2 = .ok (.iload_n 2, 1) := by decide +kernel
theorem dX3_meanWith_3 : decode cX3_meanWith 3 = .ok (.iload_n 3, 1) := by decide +kernel
theorem dX3_meanWith_4 : decode cX3_meanWith 4 = .ok (.invokevirtual 59, 3) := by decide +kernel
theorem dX3_meanWith_7 : decode cX3_meanWith 7 = .ok (.aload_n 0, 1) := by decide +kernel
theorem dX3_meanWith_8 : decode cX3_meanWith 8 = .ok (.getfield 46, 3) := by decide +kernel
theorem dX3_meanWith_11 : decode cX3_meanWith 11 = .ok (.i2l, 1) := by decide +kernel
theorem dX3_meanWith_12 : decode cX3_meanWith 12 = .ok (.lreturn, 1) := by decide +kernel
theorem dX3_isCounted_0 : decode cX3_isCounted 0 = .ok (.aload_n 0, 1) := by decide +kernel
theorem dX3_isCounted_1 : decode cX3_isCounted 1 = .ok (.aload_n 0, 1) := by decide +kernel
theorem dX3_isCounted_2 : decode cX3_isCounted 2 = .ok (.getfield 18, 3) := by decide +kernel
theorem dX3_isCounted_5 : decode cX3_isCounted 5 = .ok (.iload_n 1, 1) := by decide +kernel
theorem dX3_isCounted_6 : decode cX3_isCounted 6 = .ok (.iaload, 1) := by decide +kernel
theorem dX3_isCounted_7 : decode cX3_isCounted 7 = .ok (.aload_n 0, 1) := by decide +kernel
theorem dX3_isCounted_8 : decode cX3_isCounted 8 = .ok (.getfield 40, 3) := by decide +kernel
theorem dX3_isCounted_11 : decode cX3_isCounted 11 = .ok (.bipush 9, 2) := by decide +kernel
theorem dX3_isCounted_13 : decode cX3_isCounted 13 = .ok (.invokevirtual 55, 3) := by decide +kernel
theorem dX3_isCounted_16 : decode cX3_isCounted 16 = .ok (.aload_n 0, 1) := by decide +kernel
theorem dX3_isCounted_17 : decode cX3_isCounted 17 = .ok (.getfield 33, 3) := by decide +kernel
theorem dX3_isCounted_20 : decode cX3_isCounted 20 = .ok (.aload_n 0, 1) := by decide +kernel
theorem dX3_isCounted_21 : decode cX3_isCounted 21 = .ok (.getfield 15, 3) := by decide +kernel
theorem dX3_isCounted_24 : decode cX3_isCounted 24 = .ok (.iload_n 1, 1) := by decide +kernel
theorem dX3_isCounted_25 : decode cX3_isCounted 25 = .ok (.iaload, 1) := by decide +kernel
theorem dX3_isCounted_26 : decode cX3_isCounted 26 = .ok (.iaload, 1) := by decide +kernel
theorem dX3_isCounted_27 : decode cX3_isCounted 27 = .ok (.iload_n 1, 1) := by decide +kernel
theorem dX3_isCounted_28 : decode cX3_isCounted 28 = .ok (.if_icmp .ne 7, 3) := by decide +kernel
theorem dX3_isCounted_31 : decode cX3_isCounted 31 = .ok (.iconst 1, 1) := by decide +kernel
theorem dX3_isCounted_32 : decode cX3_isCounted 32 = .ok (.goto 4, 3) := by decide +kernel
theorem dX3_isCounted_35 : decode cX3_isCounted 35 = .ok (.iconst 0, 1) := by decide +kernel
theorem dX3_isCounted_36 : decode cX3_isCounted 36 = .ok (.ireturn, 1) := by decide +kernel
theorem dX3_countedRows_0 : decode cX3_countedRows 0 = .ok (.iconst 0, 1) := by decide +kernel
theorem dX3_countedRows_1 : decode cX3_countedRows 1 = .ok (.istore_n 1, 1) := by decide +kernel
theorem dX3_countedRows_2 : decode cX3_countedRows 2 = .ok (.iconst 0, 1) := by decide +kernel
theorem dX3_countedRows_3 : decode cX3_countedRows 3 = .ok (.istore_n 2, 1) := by decide +kernel
theorem dX3_countedRows_4 : decode cX3_countedRows 4 = .ok (.iload_n 2, 1) := by decide +kernel
theorem dX3_countedRows_5 : decode cX3_countedRows 5 = .ok (.aload_n 0, 1) := by decide +kernel
theorem dX3_countedRows_6 : decode cX3_countedRows 6 = .ok (.getfield 36, 3) := by decide +kernel
theorem dX3_countedRows_9 : decode cX3_countedRows 9 = .ok (.if_icmp .ge 20, 3) := by decide +kernel
theorem dX3_countedRows_12 : decode cX3_countedRows 12 = .ok (.aload_n 0, 1) := by decide +kernel
theorem dX3_countedRows_13 : decode cX3_countedRows 13 = .ok (.iload_n 2, 1) := by decide +kernel
theorem dX3_countedRows_14 : decode cX3_countedRows 14 = .ok (.invokevirtual 62, 3) := by decide +kernel
theorem dX3_countedRows_17 : decode cX3_countedRows 17 = .ok (.ifCond .eq 6, 3) := by decide +kernel
theorem dX3_countedRows_20 : decode cX3_countedRows 20 = .ok (.iinc 1 1, 3) := by decide +kernel
theorem dX3_countedRows_23 : decode cX3_countedRows 23 = .ok (.iinc 2 1, 3) := by decide +kernel
theorem dX3_countedRows_26 : decode cX3_countedRows 26 = .ok (.goto (-22), 3) := by decide +kernel
theorem dX3_countedRows_29 : decode cX3_countedRows 29 = .ok (.iload_n 1, 1) := by decide +kernel
theorem dX3_countedRows_30 : decode cX3_countedRows 30 = .ok (.ireturn, 1) := by decide +kernel
theorem dX3_hasRow_0 : decode cX3_hasRow 0 = .ok (.aload_n 0, 1) := by decide +kernel
theorem dX3_hasRow_1 : decode cX3_hasRow 1 = .ok (.getfield 27, 3) := by decide +kernel
theorem dX3_hasRow_4 : decode cX3_hasRow 4 = .ok (.iload_n 1, 1) := by decide +kernel
theorem dX3_hasRow_5 : decode cX3_hasRow 5 = .ok (.iaload, 1) := by decide +kernel
theorem dX3_hasRow_6 : decode cX3_hasRow 6 = .ok (.istore 4, 2) := by decide +kernel
theorem dX3_hasRow_8 : decode cX3_hasRow 8 = .ok (.iconst 0, 1) := by decide +kernel
theorem dX3_hasRow_9 : decode cX3_hasRow 9 = .ok (.istore 5, 2) := by decide +kernel
theorem dX3_hasRow_11 : decode cX3_hasRow 11 = .ok (.iload 5, 2) := by decide +kernel
theorem dX3_hasRow_13 : decode cX3_hasRow 13 = .ok (.bipush 80, 2) := by decide +kernel
theorem dX3_hasRow_15 : decode cX3_hasRow 15 = .ok (.if_icmp .ge 48, 3) := by decide +kernel
theorem dX3_hasRow_18 : decode cX3_hasRow 18 = .ok (.iload 4, 2) := by decide +kernel
theorem dX3_hasRow_20 : decode cX3_hasRow 20 = .ok (.iconst (-1), 1) := by decide +kernel
theorem dX3_hasRow_21 : decode cX3_hasRow 21 = .ok (.if_icmp .eq 42, 3) := by decide +kernel
theorem dX3_hasRow_24 : decode cX3_hasRow 24 = .ok (.aload_n 0, 1) := by decide +kernel
theorem dX3_hasRow_25 : decode cX3_hasRow 25 = .ok (.getfield 15, 3) := by decide +kernel
theorem dX3_hasRow_28 : decode cX3_hasRow 28 = .ok (.iload 4, 2) := by decide +kernel
theorem dX3_hasRow_30 : decode cX3_hasRow 30 = .ok (.iaload, 1) := by decide +kernel
theorem dX3_hasRow_31 : decode cX3_hasRow 31 = .ok (.iload_n 2, 1) := by decide +kernel
theorem dX3_hasRow_32 : decode cX3_hasRow 32 = .ok (.if_icmp .ne 16, 3) := by decide +kernel
theorem dX3_hasRow_35 : decode cX3_hasRow 35 = .ok (.aload_n 0, 1) := by decide +kernel
theorem dX3_hasRow_36 : decode cX3_hasRow 36 = .ok (.getfield 24, 3) := by decide +kernel
theorem dX3_hasRow_39 : decode cX3_hasRow 39 = .ok (.iload 4, 2) := by decide +kernel
theorem dX3_hasRow_41 : decode cX3_hasRow 41 = .ok (.iaload, 1) := by decide +kernel
theorem dX3_hasRow_42 : decode cX3_hasRow 42 = .ok (.iload_n 3, 1) := by decide +kernel
theorem dX3_hasRow_43 : decode cX3_hasRow 43 = .ok (.if_icmp .ne 5, 3) := by decide +kernel
theorem dX3_hasRow_46 : decode cX3_hasRow 46 = .ok (.iconst 1, 1) := by decide +kernel
theorem dX3_hasRow_47 : decode cX3_hasRow 47 = .ok (.ireturn, 1) := by decide +kernel
theorem dX3_hasRow_48 : decode cX3_hasRow 48 = .ok (.aload_n 0, 1) := by decide +kernel
theorem dX3_hasRow_49 : decode cX3_hasRow 49 = .ok (.getfield 30, 3) := by decide +kernel
theorem dX3_hasRow_52 : decode cX3_hasRow 52 = .ok (.iload 4, 2) := by decide +kernel
theorem dX3_hasRow_54 : decode cX3_hasRow 54 = .ok (.iaload, 1) := by decide +kernel
theorem dX3_hasRow_55 : decode cX3_hasRow 55 = .ok (.istore 4, 2) := by decide +kernel
theorem dX3_hasRow_57 : decode cX3_hasRow 57 = .ok (.iinc 5 1, 3) := by decide +kernel
theorem dX3_hasRow_60 : decode cX3_hasRow 60 = .ok (.goto (-49), 3) := by decide +kernel
theorem dX3_hasRow_63 : decode cX3_hasRow 63 = .ok (.iconst 0, 1) := by decide +kernel
theorem dX3_hasRow_64 : decode cX3_hasRow 64 = .ok (.ireturn, 1) := by decide +kernel
theorem dX3_findStep_0 : decode cX3_findStep 0 = .ok (.iload 4, 2) := by decide +kernel
theorem dX3_findStep_2 : decode cX3_findStep 2 = .ok (.istore 5, 2) := by decide +kernel
theorem dX3_findStep_4 : decode cX3_findStep 4 = .ok (.iload_n 2, 1) := by decide +kernel
theorem dX3_findStep_5 : decode cX3_findStep 5 = .ok (.istore 6, 2) := by decide +kernel
theorem dX3_findStep_7 : decode cX3_findStep 7 = .ok (.iload 6, 2) := by decide +kernel
theorem dX3_findStep_9 : decode cX3_findStep 9 = .ok (.iload_n 3, 1) := by decide +kernel
theorem dX3_findStep_10 : decode cX3_findStep 10 = .ok (.if_icmp .ge 38, 3) := by decide +kernel
theorem dX3_findStep_13 : decode cX3_findStep 13 = .ok (.aload_n 0, 1) := by decide +kernel
theorem dX3_findStep_14 : decode cX3_findStep 14 = .ok (.iload_n 1, 1) := by decide +kernel
theorem dX3_findStep_15 : decode cX3_findStep 15 = .ok (.iload 6, 2) := by decide +kernel
theorem dX3_findStep_17 : decode cX3_findStep 17 = .ok (.bipush 10, 2) := by decide +kernel
theorem dX3_findStep_19 : decode cX3_findStep 19 = .ok (.irem, 1) := by decide +kernel
theorem dX3_findStep_20 : decode cX3_findStep 20 = .ok (.iload 6, 2) := by decide +kernel
theorem dX3_findStep_22 : decode cX3_findStep 22 = .ok (.bipush 10, 2) := by decide +kernel
theorem dX3_findStep_24 : decode cX3_findStep 24 = .ok (.idiv, 1) := by decide +kernel
theorem dX3_findStep_25 : decode cX3_findStep 25 = .ok (.invokevirtual 66, 3) := by decide +kernel
theorem dX3_findStep_28 : decode cX3_findStep 28 = .ok (.ifCond .eq 14, 3) := by decide +kernel
theorem dX3_findStep_31 : decode cX3_findStep 31 = .ok (.iload 5, 2) := by decide +kernel
theorem dX3_findStep_33 : decode cX3_findStep 33 = .ok (.ifCond .ne 6, 3) := by decide +kernel
theorem dX3_findStep_36 : decode cX3_findStep 36 = .ok (.iload 6, 2) := by decide +kernel
theorem dX3_findStep_38 : decode cX3_findStep 38 = .ok (.ireturn, 1) := by decide +kernel
theorem dX3_findStep_39 : decode cX3_findStep 39 = .ok (.iinc 5 (-1), 3) := by decide +kernel
theorem dX3_findStep_42 : decode cX3_findStep 42 = .ok (.iinc 6 1, 3) := by decide +kernel
theorem dX3_findStep_45 : decode cX3_findStep 45 = .ok (.goto (-38), 3) := by decide +kernel
theorem dX3_findStep_48 : decode cX3_findStep 48 = .ok (.iconst (-1), 1) := by decide +kernel
theorem dX3_findStep_49 : decode cX3_findStep 49 = .ok (.ireturn, 1) := by decide +kernel
theorem dX4_init_0 : decode cX4_init 0 = .ok (.aload_n 0, 1) := by decide +kernel
theorem dX4_init_1 : decode cX4_init 1 = .ok (.invokespecial 3, 3) := by decide +kernel
theorem dX4_init_4 : decode cX4_init 4 = .ok (.aload_n 0, 1) := by decide +kernel
theorem dX4_init_5 : decode cX4_init 5 = .ok (.sipush 432, 3) := by decide +kernel
theorem dX4_init_8 : decode cX4_init 8 = .ok (.newarray .long, 2) := by decide +kernel
theorem dX4_init_10 : decode cX4_init 10 = .ok (.putfield 9, 3) := by decide +kernel
theorem dX4_init_13 : decode cX4_init 13 = .ok (.aload_n 0, 1) := by decide +kernel
theorem dX4_init_14 : decode cX4_init 14 = .ok (.bipush 72, 2) := by decide +kernel
theorem dX4_init_16 : decode cX4_init 16 = .ok (.newarray .int, 2) := by decide +kernel
theorem dX4_init_18 : decode cX4_init 18 = .ok (.putfield 15, 3) := by decide +kernel
theorem dX4_init_21 : decode cX4_init 21 = .ok (.aload_n 0, 1) := by decide +kernel
theorem dX4_init_22 : decode cX4_init 22 = .ok (.bipush 72, 2) := by decide +kernel
theorem dX4_init_24 : decode cX4_init 24 = .ok (.newarray .boolean, 2) := by decide +kernel
theorem dX4_init_26 : decode cX4_init 26 = .ok (.putfield 19, 3) := by decide +kernel
theorem dX4_init_29 : decode cX4_init 29 = .ok (.return_, 1) := by decide +kernel
theorem dX4_placeOf_0 : decode cX4_placeOf 0 = .ok (.iload_n 0, 1) := by decide +kernel
theorem dX4_placeOf_1 : decode cX4_placeOf 1 = .ok (.bipush 6, 2) := by decide +kernel
theorem dX4_placeOf_3 : decode cX4_placeOf 3 = .ok (.imul, 1) := by decide +kernel
theorem dX4_placeOf_4 : decode cX4_placeOf 4 = .ok (.iload_n 1, 1) := by decide +kernel
theorem dX4_placeOf_5 : decode cX4_placeOf 5 = .ok (.iadd, 1) := by decide +kernel
theorem dX4_placeOf_6 : decode cX4_placeOf 6 = .ok (.bipush 12, 2) := by decide +kernel
theorem dX4_placeOf_8 : decode cX4_placeOf 8 = .ok (.imul, 1) := by decide +kernel
theorem dX4_placeOf_9 : decode cX4_placeOf 9 = .ok (.iload_n 2, 1) := by decide +kernel
theorem dX4_placeOf_10 : decode cX4_placeOf 10 = .ok (.iadd, 1) := by decide +kernel
theorem dX4_placeOf_11 : decode cX4_placeOf 11 = .ok (.ireturn, 1) := by decide +kernel
theorem dX4_addFlow_0 : decode cX4_addFlow 0 = .ok (.iload_n 1, 1) := by decide +kernel
theorem dX4_addFlow_1 : decode cX4_addFlow 1 = .ok (.iload_n 2, 1) := by decide +kernel
theorem dX4_addFlow_2 : decode cX4_addFlow 2 = .ok (.iload_n 3, 1) := by decide +kernel
theorem dX4_addFlow_3 : decode cX4_addFlow 3 = .ok (.invokestatic 23, 3) := by decide +kernel
theorem dX4_addFlow_6 : decode cX4_addFlow 6 = .ok (.istore 5, 2) := by decide +kernel
theorem dX4_addFlow_8 : decode cX4_addFlow 8 = .ok (.aload_n 0, 1) := by decide +kernel
theorem dX4_addFlow_9 : decode cX4_addFlow 9 = .ok (.getfield 9, 3) := by decide +kernel
theorem dX4_addFlow_12 : decode cX4_addFlow 12 = .ok (.iload 5, 2) := by decide +kernel
theorem dX4_addFlow_14 : decode cX4_addFlow 14 = .ok (.dup2, 1) := by decide +kernel
theorem dX4_addFlow_15 : decode cX4_addFlow 15 = .ok (.laload, 1) := by decide +kernel
theorem dX4_addFlow_16 : decode cX4_addFlow 16 = .ok (.iload 4, 2) := by decide +kernel
theorem dX4_addFlow_18 : decode cX4_addFlow 18 = .ok (.i2l, 1) := by decide +kernel
theorem dX4_addFlow_19 : decode cX4_addFlow 19 = .ok (.ladd, 1) := by decide +kernel
theorem dX4_addFlow_20 : decode cX4_addFlow 20 = .ok (.lastore, 1) := by decide +kernel
theorem dX4_addFlow_21 : decode cX4_addFlow 21 = .ok (.aload_n 0, 1) := by decide +kernel
theorem dX4_addFlow_22 : decode cX4_addFlow 22 = .ok (.getfield 9, 3) := by decide +kernel
theorem dX4_addFlow_25 : decode cX4_addFlow 25 = .ok (.iload 5, 2) := by decide +kernel
theorem dX4_addFlow_27 : decode cX4_addFlow 27 = .ok (.laload, 1) := by decide +kernel
theorem dX4_addFlow_28 : decode cX4_addFlow 28 = .ok (.lreturn, 1) := by decide +kernel
theorem dX4_netOf_0 : decode cX4_netOf 0 = .ok (.lconst 0, 1) := by decide +kernel
theorem dX4_netOf_1 : decode cX4_netOf 1 = .ok (.lstore_n 3, 1) := by decide +kernel
theorem dX4_netOf_2 : decode cX4_netOf 2 = .ok (.iconst 0, 1) := by decide +kernel
theorem dX4_netOf_3 : decode cX4_netOf 3 = .ok (.istore 5, 2) := by decide +kernel
theorem dX4_netOf_5 : decode cX4_netOf 5 = .ok (.iload 5, 2) := by decide +kernel
theorem dX4_netOf_7 : decode cX4_netOf 7 = .ok (.bipush 6, 2) := by decide +kernel
theorem dX4_netOf_9 : decode cX4_netOf 9 = .ok (.if_icmp .ge 37, 3) := by decide +kernel
theorem dX4_netOf_12 : decode cX4_netOf 12 = .ok (.lload_n 3, 1) := by decide +kernel
theorem dX4_netOf_13 : decode cX4_netOf 13 = .ok (.aload_n 0, 1) := by decide +kernel
theorem dX4_netOf_14 : decode cX4_netOf 14 = .ok (.getfield 9, 3) := by decide +kernel
theorem dX4_netOf_17 : decode cX4_netOf 17 = .ok (.iload 5, 2) := by decide +kernel
theorem dX4_netOf_19 : decode cX4_netOf 19 = .ok (.iload_n 1, 1) := by decide +kernel
theorem dX4_netOf_20 : decode cX4_netOf 20 = .ok (.iload_n 2, 1) := by decide +kernel
theorem dX4_netOf_21 : decode cX4_netOf 21 = .ok (.invokestatic 23, 3) := by decide +kernel
theorem dX4_netOf_24 : decode cX4_netOf 24 = .ok (.laload, 1) := by decide +kernel
theorem dX4_netOf_25 : decode cX4_netOf 25 = .ok (.aload_n 0, 1) := by decide +kernel
theorem dX4_netOf_26 : decode cX4_netOf 26 = .ok (.getfield 9, 3) := by decide +kernel
theorem dX4_netOf_29 : decode cX4_netOf 29 = .ok (.iload_n 1, 1) := by decide +kernel
theorem dX4_netOf_30 : decode cX4_netOf 30 = .ok (.iload 5, 2) := by decide +kernel
theorem dX4_netOf_32 : decode cX4_netOf 32 = .ok (.iload_n 2, 1) := by decide +kernel
theorem dX4_netOf_33 : decode cX4_netOf 33 = .ok (.invokestatic 23, 3) := by decide +kernel
theorem dX4_netOf_36 : decode cX4_netOf 36 = .ok (.laload, 1) := by decide +kernel
theorem dX4_netOf_37 : decode cX4_netOf 37 = .ok (.lsub, 1) := by decide +kernel
theorem dX4_netOf_38 : decode cX4_netOf 38 = .ok (.ladd, 1) := by decide +kernel
theorem dX4_netOf_39 : decode cX4_netOf 39 = .ok (.lstore_n 3, 1) := by decide +kernel
theorem dX4_netOf_40 : decode cX4_netOf 40 = .ok (.iinc 5 1, 3) := by decide +kernel
theorem dX4_netOf_43 : decode cX4_netOf 43 = .ok (.goto (-38), 3) := by decide +kernel
theorem dX4_netOf_46 : decode cX4_netOf 46 = .ok (.lload_n 3, 1) := by decide +kernel
theorem dX4_netOf_47 : decode cX4_netOf 47 = .ok (.lreturn, 1) := by decide +kernel
theorem dX4_dueOf_0 : decode cX4_dueOf 0 = .ok (.lconst 0, 1) := by decide +kernel
theorem dX4_dueOf_1 : decode cX4_dueOf 1 = .ok (.lstore_n 3, 1) := by decide +kernel
theorem dX4_dueOf_2 : decode cX4_dueOf 2 = .ok (.iconst 0, 1) := by decide +kernel
theorem dX4_dueOf_3 : decode cX4_dueOf 3 = .ok (.istore 5, 2) := by decide +kernel
theorem dX4_dueOf_5 : decode cX4_dueOf 5 = .ok (.iload 5, 2) := by decide +kernel
theorem dX4_dueOf_7 : decode cX4_dueOf 7 = .ok (.iload_n 2, 1) := by decide +kernel
theorem dX4_dueOf_8 : decode cX4_dueOf 8 = .ok (.if_icmp .ge 49, 3) := by decide +kernel
theorem dX4_dueOf_11 : decode cX4_dueOf 11 = .ok (.iload_n 1, 1) := by decide +kernel
theorem dX4_dueOf_12 : decode cX4_dueOf 12 = .ok (.bipush 12, 2) := by decide +kernel
theorem dX4_dueOf_14 : decode cX4_dueOf 14 = .ok (.imul, 1) := by decide +kernel
theorem dX4_dueOf_15 : decode cX4_dueOf 15 = .ok (.iload 5, 2) := by decide +kernel
theorem dX4_dueOf_17 : decode cX4_dueOf 17 = .ok (.iadd, 1) := by decide +kernel
theorem dX4_dueOf_18 : decode cX4_dueOf 18 = .ok (.istore 6, 2) := by decide +kernel
theorem dX4_dueOf_20 : decode cX4_dueOf 20 = .ok (.aload_n 0, 1) := by decide +kernel
theorem dX4_dueOf_21 : decode cX4_dueOf 21 = .ok (.getfield 19, 3) := by decide +kernel
theorem dX4_dueOf_24 : decode cX4_dueOf 24 = .ok (.iload 6, 2) := by decide +kernel
theorem dX4_dueOf_26 : decode cX4_dueOf 26 = .ok (.baload, 1) := by decide +kernel
theorem dX4_dueOf_27 : decode cX4_dueOf 27 = .ok (.ifCond .eq 14, 3) := by decide +kernel
theorem dX4_dueOf_30 : decode cX4_dueOf 30 = .ok (.aload_n 0, 1) := by decide +kernel
theorem dX4_dueOf_31 : decode cX4_dueOf 31 = .ok (.getfield 15, 3) := by decide +kernel
theorem dX4_dueOf_34 : decode cX4_dueOf 34 = .ok (.iload 6, 2) := by decide +kernel
theorem dX4_dueOf_36 : decode cX4_dueOf 36 = .ok (.iaload, 1) := by decide +kernel
theorem dX4_dueOf_37 : decode cX4_dueOf 37 = .ok (.i2l, 1) := by decide +kernel
theorem dX4_dueOf_38 : decode cX4_dueOf 38 = .ok (.goto 12, 3) := by decide +kernel
theorem dX4_dueOf_41 : decode cX4_dueOf 41 = .ok (.lload_n 3, 1) := by decide +kernel
theorem dX4_dueOf_42 : decode cX4_dueOf 42 = .ok (.aload_n 0, 1) := by decide +kernel
theorem dX4_dueOf_43 : decode cX4_dueOf 43 = .ok (.iload_n 1, 1) := by decide +kernel
theorem dX4_dueOf_44 : decode cX4_dueOf 44 = .ok (.iload 5, 2) := by decide +kernel
theorem dX4_dueOf_46 : decode cX4_dueOf 46 = .ok (.invokevirtual 27, 3) := by decide +kernel
theorem dX4_dueOf_49 : decode cX4_dueOf 49 = .ok (.ladd, 1) := by decide +kernel
theorem dX4_dueOf_50 : decode cX4_dueOf 50 = .ok (.lstore_n 3, 1) := by decide +kernel
theorem dX4_dueOf_51 : decode cX4_dueOf 51 = .ok (.iinc 5 1, 3) := by decide +kernel
theorem dX4_dueOf_54 : decode cX4_dueOf 54 = .ok (.goto (-49), 3) := by decide +kernel
theorem dX4_dueOf_57 : decode cX4_dueOf 57 = .ok (.lload_n 3, 1) := by decide +kernel
theorem dX4_dueOf_58 : decode cX4_dueOf 58 = .ok (.aload_n 0, 1) := by decide +kernel
theorem dX4_dueOf_59 : decode cX4_dueOf 59 = .ok (.iload_n 1, 1) := by decide +kernel
theorem dX4_dueOf_60 : decode cX4_dueOf 60 = .ok (.iload_n 2, 1) := by decide +kernel
theorem dX4_dueOf_61 : decode cX4_dueOf 61 = .ok (.invokevirtual 27, 3) := by decide +kernel
theorem dX4_dueOf_64 : decode cX4_dueOf 64 = .ok (.ladd, 1) := by decide +kernel
theorem dX4_dueOf_65 : decode cX4_dueOf 65 = .ok (.lreturn, 1) := by decide +kernel
theorem dX5_init_0 : decode cX5_init 0 = .ok (.aload_n 0, 1) := by decide +kernel
theorem dX5_init_1 : decode cX5_init 1 = .ok (.invokespecial 3, 3) := by decide +kernel
theorem dX5_init_4 : decode cX5_init 4 = .ok (.aload_n 0, 1) := by decide +kernel
theorem dX5_init_5 : decode cX5_init 5 = .ok (.bipush 60, 2) := by decide +kernel
theorem dX5_init_7 : decode cX5_init 7 = .ok (.newarray .int, 2) := by decide +kernel
theorem dX5_init_9 : decode cX5_init 9 = .ok (.putfield 9, 3) := by decide +kernel
theorem dX5_init_12 : decode cX5_init 12 = .ok (.aload_n 0, 1) := by decide +kernel
theorem dX5_init_13 : decode cX5_init 13 = .ok (.iconst 0, 1) := by decide +kernel
theorem dX5_init_14 : decode cX5_init 14 = .ok (.putfield 15, 3) := by decide +kernel
theorem dX5_init_17 : decode cX5_init 17 = .ok (.aload_n 0, 1) := by decide +kernel
theorem dX5_init_18 : decode cX5_init 18 = .ok (.iconst 0, 1) := by decide +kernel
theorem dX5_init_19 : decode cX5_init 19 = .ok (.putfield 19, 3) := by decide +kernel
theorem dX5_init_22 : decode cX5_init 22 = .ok (.aload_n 0, 1) := by decide +kernel
theorem dX5_init_23 : decode cX5_init 23 = .ok (.iconst 1, 1) := by decide +kernel
theorem dX5_init_24 : decode cX5_init 24 = .ok (.putfield 22, 3) := by decide +kernel
theorem dX5_init_27 : decode cX5_init 27 = .ok (.return_, 1) := by decide +kernel
theorem dX5_renew_0 : decode cX5_renew 0 = .ok (.aload_n 0, 1) := by decide +kernel
theorem dX5_renew_1 : decode cX5_renew 1 = .ok (.getfield 9, 3) := by decide +kernel
theorem dX5_renew_4 : decode cX5_renew 4 = .ok (.iconst 0, 1) := by decide +kernel
theorem dX5_renew_5 : decode cX5_renew 5 = .ok (.invokestatic 26, 3) := by decide +kernel
theorem dX5_renew_8 : decode cX5_renew 8 = .ok (.aload_n 0, 1) := by decide +kernel
theorem dX5_renew_9 : decode cX5_renew 9 = .ok (.iload_n 1, 1) := by decide +kernel
theorem dX5_renew_10 : decode cX5_renew 10 = .ok (.putfield 15, 3) := by decide +kernel
theorem dX5_renew_13 : decode cX5_renew 13 = .ok (.aload_n 0, 1) := by decide +kernel
theorem dX5_renew_14 : decode cX5_renew 14 = .ok (.iload_n 2, 1) := by decide +kernel
theorem dX5_renew_15 : decode cX5_renew 15 = .ok (.putfield 19, 3) := by decide +kernel
theorem dX5_renew_18 : decode cX5_renew 18 = .ok (.aload_n 0, 1) := by decide +kernel
theorem dX5_renew_19 : decode cX5_renew 19 = .ok (.iconst 0, 1) := by decide +kernel
theorem dX5_renew_20 : decode cX5_renew 20 = .ok (.putfield 22, 3) := by decide +kernel
theorem dX5_renew_23 : decode cX5_renew 23 = .ok (.return_, 1) := by decide +kernel
theorem dX5_store_0 : decode cX5_store 0 = .ok (.aload_n 0, 1) := by decide +kernel
theorem dX5_store_1 : decode cX5_store 1 = .ok (.getfield 9, 3) := by decide +kernel
theorem dX5_store_4 : decode cX5_store 4 = .ok (.iload_n 1, 1) := by decide +kernel
theorem dX5_store_5 : decode cX5_store 5 = .ok (.aload_n 0, 1) := by decide +kernel
theorem dX5_store_6 : decode cX5_store 6 = .ok (.getfield 15, 3) := by decide +kernel
theorem dX5_store_9 : decode cX5_store 9 = .ok (.ifCond .ne 8, 3) := by decide +kernel
theorem dX5_store_12 : decode cX5_store 12 = .ok (.iload_n 2, 1) := by decide +kernel
theorem dX5_store_13 : decode cX5_store 13 = .ok (.i2b, 1) := by decide +kernel
theorem dX5_store_14 : decode cX5_store 14 = .ok (.goto 17, 3) := by decide +kernel
theorem dX5_store_17 : decode cX5_store 17 = .ok (.aload_n 0, 1) := by decide +kernel
theorem dX5_store_18 : decode cX5_store 18 = .ok (.getfield 15, 3) := by decide +kernel
theorem dX5_store_21 : decode cX5_store 21 = .ok (.iconst 1, 1) := by decide +kernel
theorem dX5_store_22 : decode cX5_store 22 = .ok (.if_icmp .ne 8, 3) := by decide +kernel
theorem dX5_store_25 : decode cX5_store 25 = .ok (.iload_n 2, 1) := by decide +kernel
theorem dX5_store_26 : decode cX5_store 26 = .ok (.i2s, 1) := by decide +kernel
theorem dX5_store_27 : decode cX5_store 27 = .ok (.goto 4, 3) := by decide +kernel
theorem dX5_store_30 : decode cX5_store 30 = .ok (.iload_n 2, 1) := by decide +kernel
theorem dX5_store_31 : decode cX5_store 31 = .ok (.iastore, 1) := by decide +kernel
theorem dX5_store_32 : decode cX5_store 32 = .ok (.return_, 1) := by decide +kernel
theorem dX5_holds_0 : decode cX5_holds 0 = .ok (.iload_n 1, 1) := by decide +kernel
theorem dX5_holds_1 : decode cX5_holds 1 = .ok (.ifCond .lt 29, 3) := by decide +kernel
theorem dX5_holds_4 : decode cX5_holds 4 = .ok (.iload_n 2, 1) := by decide +kernel
theorem dX5_holds_5 : decode cX5_holds 5 = .ok (.ifCond .lt 25, 3) := by decide +kernel
theorem dX5_holds_8 : decode cX5_holds 8 = .ok (.iload_n 1, 1) := by decide +kernel
theorem dX5_holds_9 : decode cX5_holds 9 = .ok (.aload_n 0, 1) := by decide +kernel
theorem dX5_holds_10 : decode cX5_holds 10 = .ok (.getfield 19, 3) := by decide +kernel
theorem dX5_holds_13 : decode cX5_holds 13 = .ok (.if_icmp .gt 17, 3) := by decide +kernel
theorem dX5_holds_16 : decode cX5_holds 16 = .ok (.iload_n 2, 1) := by decide +kernel
theorem dX5_holds_17 : decode cX5_holds 17 = .ok (.aload_n 0, 1) := by decide +kernel
theorem dX5_holds_18 : decode cX5_holds 18 = .ok (.getfield 19, 3) := by decide +kernel
theorem dX5_holds_21 : decode cX5_holds 21 = .ok (.iload_n 1, 1) := by decide +kernel
theorem dX5_holds_22 : decode cX5_holds 22 = .ok (.isub, 1) := by decide +kernel
theorem dX5_holds_23 : decode cX5_holds 23 = .ok (.if_icmp .gt 7, 3) := by decide +kernel
theorem dX5_holds_26 : decode cX5_holds 26 = .ok (.iconst 1, 1) := by decide +kernel
theorem dX5_holds_27 : decode cX5_holds 27 = .ok (.goto 4, 3) := by decide +kernel
theorem dX5_holds_30 : decode cX5_holds 30 = .ok (.iconst 0, 1) := by decide +kernel
theorem dX5_holds_31 : decode cX5_holds 31 = .ok (.ireturn, 1) := by decide +kernel
theorem dX6_init_0 : decode cX6_init 0 = .ok (.aload_n 0, 1) := by decide +kernel
theorem dX6_init_1 : decode cX6_init 1 = .ok (.invokespecial 3, 3) := by decide +kernel
theorem dX6_init_4 : decode cX6_init 4 = .ok (.aload_n 0, 1) := by decide +kernel
theorem dX6_init_5 : decode cX6_init 5 = .ok (.new 9, 3) := by decide +kernel
theorem dX6_init_8 : decode cX6_init 8 = .ok (.dup, 1) := by decide +kernel
theorem dX6_init_9 : decode cX6_init 9 = .ok (.invokespecial 11, 3) := by decide +kernel
theorem dX6_init_12 : decode cX6_init 12 = .ok (.putfield 12, 3) := by decide +kernel
theorem dX6_init_15 : decode cX6_init 15 = .ok (.aload_n 0, 1) := by decide +kernel
theorem dX6_init_16 : decode cX6_init 16 = .ok (.bipush 6, 2) := by decide +kernel
theorem dX6_init_18 : decode cX6_init 18 = .ok (.newarray .boolean, 2) := by decide +kernel
theorem dX6_init_20 : decode cX6_init 20 = .ok (.putfield 18, 3) := by decide +kernel
theorem dX6_init_23 : decode cX6_init 23 = .ok (.aload_n 0, 1) := by decide +kernel
theorem dX6_init_24 : decode cX6_init 24 = .ok (.bipush 48, 2) := by decide +kernel
theorem dX6_init_26 : decode cX6_init 26 = .ok (.newarray .boolean, 2) := by decide +kernel
theorem dX6_init_28 : decode cX6_init 28 = .ok (.putfield 22, 3) := by decide +kernel
theorem dX6_init_31 : decode cX6_init 31 = .ok (.aload_n 0, 1) := by decide +kernel
theorem dX6_init_32 : decode cX6_init 32 = .ok (.bipush 24, 2) := by decide +kernel
theorem dX6_init_34 : decode cX6_init 34 = .ok (.newarray .boolean, 2) := by decide +kernel
theorem dX6_init_36 : decode cX6_init 36 = .ok (.putfield 25, 3) := by decide +kernel
theorem dX6_init_39 : decode cX6_init 39 = .ok (.aload_n 0, 1) := by decide +kernel
theorem dX6_init_40 : decode cX6_init 40 = .ok (.sipush 720, 3) := by decide +kernel
theorem dX6_init_43 : decode cX6_init 43 = .ok (.newarray .int, 2) := by decide +kernel
theorem dX6_init_45 : decode cX6_init 45 = .ok (.putfield 28, 3) := by decide +kernel
theorem dX6_init_48 : decode cX6_init 48 = .ok (.aload_n 0, 1) := by decide +kernel
theorem dX6_init_49 : decode cX6_init 49 = .ok (.sipush 720, 3) := by decide +kernel
theorem dX6_init_52 : decode cX6_init 52 = .ok (.newarray .int, 2) := by decide +kernel
theorem dX6_init_54 : decode cX6_init 54 = .ok (.putfield 32, 3) := by decide +kernel
theorem dX6_init_57 : decode cX6_init 57 = .ok (.aload_n 0, 1) := by decide +kernel
theorem dX6_init_58 : decode cX6_init 58 = .ok (.bipush 6, 2) := by decide +kernel
theorem dX6_init_60 : decode cX6_init 60 = .ok (.newarray .int, 2) := by decide +kernel
theorem dX6_init_62 : decode cX6_init 62 = .ok (.putfield 35, 3) := by decide +kernel
theorem dX6_init_65 : decode cX6_init 65 = .ok (.aload_n 0, 1) := by decide +kernel
theorem dX6_init_66 : decode cX6_init 66 = .ok (.sipush 576, 3) := by decide +kernel
theorem dX6_init_69 : decode cX6_init 69 = .ok (.newarray .long, 2) := by decide +kernel
theorem dX6_init_71 : decode cX6_init 71 = .ok (.putfield 38, 3) := by decide +kernel
theorem dX6_init_74 : decode cX6_init 74 = .ok (.aload_n 0, 1) := by decide +kernel
theorem dX6_init_75 : decode cX6_init 75 = .ok (.sipush 576, 3) := by decide +kernel
theorem dX6_init_78 : decode cX6_init 78 = .ok (.newarray .long, 2) := by decide +kernel
theorem dX6_init_80 : decode cX6_init 80 = .ok (.putfield 42, 3) := by decide +kernel
theorem dX6_init_83 : decode cX6_init 83 = .ok (.aload_n 0, 1) := by decide +kernel
theorem dX6_init_84 : decode cX6_init 84 = .ok (.iconst 0, 1) := by decide +kernel
theorem dX6_init_85 : decode cX6_init 85 = .ok (.putfield 45, 3) := by decide +kernel
theorem dX6_init_88 : decode cX6_init 88 = .ok (.aload_n 0, 1) := by decide +kernel
theorem dX6_init_89 : decode cX6_init 89 = .ok (.aload_n 1, 1) := by decide +kernel
theorem dX6_init_90 : decode cX6_init 90 = .ok (.putfield 49, 3) := by decide +kernel
theorem dX6_init_93 : decode cX6_init 93 = .ok (.iconst 0, 1) := by decide +kernel
theorem dX6_init_94 : decode cX6_init 94 = .ok (.istore_n 2, 1) := by decide +kernel
theorem dX6_init_95 : decode cX6_init 95 = .ok (.iload_n 2, 1) := by decide +kernel
theorem dX6_init_96 : decode cX6_init 96 = .ok (.iconst 3, 1) := by decide +kernel
theorem dX6_init_97 : decode cX6_init 97 = .ok (.if_icmp .ge 16, 3) := by decide +kernel
theorem dX6_init_100 : decode cX6_init 100 = .ok (.aload_n 0, 1) := by decide +kernel
theorem dX6_init_101 : decode cX6_init 101 = .ok (.getfield 18, 3) := by decide +kernel
theorem dX6_init_104 : decode cX6_init 104 = .ok (.iload_n 2, 1) := by decide +kernel
theorem dX6_init_105 : decode cX6_init 105 = .ok (.iconst 1, 1) := by decide +kernel
theorem dX6_init_106 : decode cX6_init 106 = .ok (.bastore, 1) := by decide +kernel
theorem dX6_init_107 : decode cX6_init 107 = .ok (.iinc 2 1, 3) := by decide +kernel
theorem dX6_init_110 : decode cX6_init 110 = .ok (.goto (-15), 3) := by decide +kernel
theorem dX6_init_113 : decode cX6_init 113 = .ok (.return_, 1) := by decide +kernel
theorem dX6_blockOf_0 : decode cX6_blockOf 0 = .ok (.iload_n 0, 1) := by decide +kernel
theorem dX6_blockOf_1 : decode cX6_blockOf 1 = .ok (.iconst 4, 1) := by decide +kernel
theorem dX6_blockOf_2 : decode cX6_blockOf 2 = .ok (.imul, 1) := by decide +kernel
theorem dX6_blockOf_3 : decode cX6_blockOf 3 = .ok (.iload_n 1, 1) := by decide +kernel
theorem dX6_blockOf_4 : decode cX6_blockOf 4 = .ok (.iadd, 1) := by decide +kernel
theorem dX6_blockOf_5 : decode cX6_blockOf 5 = .ok (.iconst 3, 1) := by decide +kernel
theorem dX6_blockOf_6 : decode cX6_blockOf 6 = .ok (.imul, 1) := by decide +kernel
theorem dX6_blockOf_7 : decode cX6_blockOf 7 = .ok (.iload_n 2, 1) := by decide +kernel
theorem dX6_blockOf_8 : decode cX6_blockOf 8 = .ok (.iadd, 1) := by decide +kernel
theorem dX6_blockOf_9 : decode cX6_blockOf 9 = .ok (.ireturn, 1) := by decide +kernel
theorem dX6_forget_0 : decode cX6_forget 0 = .ok (.aload_n 0, 1) := by decide +kernel
theorem dX6_forget_1 : decode cX6_forget 1 = .ok (.getfield 25, 3) := by decide +kernel
theorem dX6_forget_4 : decode cX6_forget 4 = .ok (.iload_n 1, 1) := by decide +kernel
theorem dX6_forget_5 : decode cX6_forget 5 = .ok (.iload_n 2, 1) := by decide +kernel
theorem dX6_forget_6 : decode cX6_forget 6 = .ok (.iload_n 3, 1) := by decide +kernel
theorem dX6_forget_7 : decode cX6_forget 7 = .ok (.invokestatic 53, 3) := by decide +kernel
theorem dX6_forget_10 : decode cX6_forget 10 = .ok (.iconst 0, 1) := by decide +kernel
theorem dX6_forget_11 : decode cX6_forget 11 = .ok (.bastore, 1) := by decide +kernel
theorem dX6_forget_12 : decode cX6_forget 12 = .ok (.return_, 1) := by decide +kernel
theorem dX6_forgetAll_0 : decode cX6_forgetAll 0 = .ok (.iconst 0, 1) := by decide +kernel
theorem dX6_forgetAll_1 : decode cX6_forgetAll 1 = .ok (.istore_n 1, 1) := by decide +kernel
theorem dX6_forgetAll_2 : decode cX6_forgetAll 2 = .ok (.iload_n 1, 1) := by decide +kernel
theorem dX6_forgetAll_3 : decode cX6_forgetAll 3 = .ok (.aload_n 0, 1) := by decide +kernel
theorem dX6_forgetAll_4 : decode cX6_forgetAll 4 = .ok (.getfield 25, 3) := by decide +kernel
theorem dX6_forgetAll_7 : decode cX6_forgetAll 7 = .ok (.arraylength, 1) := by decide +kernel
theorem dX6_forgetAll_8 : decode cX6_forgetAll 8 = .ok (.if_icmp .ge 16, 3) := by decide +kernel
theorem dX6_forgetAll_11 : decode cX6_forgetAll 11 = .ok (.aload_n 0, 1) := by decide +kernel
theorem dX6_forgetAll_12 : decode cX6_forgetAll 12 = .ok (.getfield 25, 3) := by decide +kernel
theorem dX6_forgetAll_15 : decode cX6_forgetAll 15 = .ok (.iload_n 1, 1) := by decide +kernel
theorem dX6_forgetAll_16 : decode cX6_forgetAll 16 = .ok (.iconst 0, 1) := by decide +kernel
theorem dX6_forgetAll_17 : decode cX6_forgetAll 17 = .ok (.bastore, 1) := by decide +kernel
theorem dX6_forgetAll_18 : decode cX6_forgetAll 18 = .ok (.iinc 1 1, 3) := by decide +kernel
theorem dX6_forgetAll_21 : decode cX6_forgetAll 21 = .ok (.goto (-19), 3) := by decide +kernel
theorem dX6_forgetAll_24 : decode cX6_forgetAll 24 = .ok (.return_, 1) := by decide +kernel
theorem dX6_settleAll_0 : decode cX6_settleAll 0 = .ok (.iconst 0, 1) := by decide +kernel
theorem dX6_settleAll_1 : decode cX6_settleAll 1 = .ok (.istore_n 1, 1) := by decide +kernel
theorem dX6_settleAll_2 : decode cX6_settleAll 2 = .ok (.iload_n 1, 1) := by decide +kernel
theorem dX6_settleAll_3 : decode cX6_settleAll 3 = .ok (.aload_n 0, 1) := by decide +kernel
theorem dX6_settleAll_4 : decode cX6_settleAll 4 = .ok (.getfield 25, 3) := by decide +kernel
theorem dX6_settleAll_7 : decode cX6_settleAll 7 = .ok (.arraylength, 1) := by decide +kernel
theorem dX6_settleAll_8 : decode cX6_settleAll 8 = .ok (.if_icmp .ge 26, 3) := by decide +kernel
theorem dX6_settleAll_11 : decode cX6_settleAll 11 = .ok (.iload_n 1, 1) := by decide +kernel
theorem dX6_settleAll_12 : decode cX6_settleAll 12 = .ok (.iconst 3, 1) := by decide +kernel
theorem dX6_settleAll_13 : decode cX6_settleAll 13 = .ok (.idiv, 1) := by decide +kernel
theorem dX6_settleAll_14 : decode cX6_settleAll 14 = .ok (.istore_n 2, 1) := by decide +kernel
theorem dX6_settleAll_15 : decode cX6_settleAll 15 = .ok (.aload_n 0, 1) := by decide +kernel
theorem dX6_settleAll_16 : decode cX6_settleAll 16 = .ok (.iload_n 2, 1) := by decide +kernel
theorem dX6_settleAll_17 : decode cX6_settleAll 17 = .ok (.iconst 4, 1) := by decide +kernel
theorem dX6_settleAll_18 : decode cX6_settleAll 18 = .ok (.idiv, 1) := by decide +kernel
theorem dX6_settleAll_19 : decode cX6_settleAll 19 = .ok (.iload_n 2, 1) := by decide +kernel
theorem dX6_settleAll_20 : decode cX6_settleAll 20 = .ok (.iconst 4, 1) := by decide +kernel
theorem dX6_settleAll_21 : decode cX6_settleAll 21 = .ok (.irem, 1) := by decide +kernel
theorem dX6_settleAll_22 : decode cX6_settleAll 22 = .ok (.iload_n 1, 1) := by decide +kernel
theorem dX6_settleAll_23 : decode cX6_settleAll 23 = .ok (.iconst 3, 1) := by decide +kernel
theorem dX6_settleAll_24 : decode cX6_settleAll 24 = .ok (.irem, 1) := by decide +kernel
theorem dX6_settleAll_25 : decode cX6_settleAll 25 = .ok (.invokevirtual 57, 3) := by decide +kernel
theorem dX6_settleAll_28 : decode cX6_settleAll 28 = .ok (.iinc 1 1, 3) := by decide +kernel
theorem dX6_settleAll_31 : decode cX6_settleAll 31 = .ok (.goto (-29), 3) := by decide +kernel
theorem dX6_settleAll_34 : decode cX6_settleAll 34 = .ok (.return_, 1) := by decide +kernel
theorem dX6_settle_0 : decode cX6_settle 0 = .ok (.iload_n 1, 1) := by decide +kernel
theorem dX6_settle_1 : decode cX6_settle 1 = .ok (.iload_n 2, 1) := by decide +kernel
theorem dX6_settle_2 : decode cX6_settle 2 = .ok (.iload_n 3, 1) := by decide +kernel
theorem dX6_settle_3 : decode cX6_settle 3 = .ok (.invokestatic 53, 3) := by decide +kernel
theorem dX6_settle_6 : decode cX6_settle 6 = .ok (.istore 4, 2) := by decide +kernel
theorem dX6_settle_8 : decode cX6_settle 8 = .ok (.aload_n 0, 1) := by decide +kernel
theorem dX6_settle_9 : decode cX6_settle 9 = .ok (.getfield 25, 3) := by decide +kernel
theorem dX6_settle_12 : decode cX6_settle 12 = .ok (.iload 4, 2) := by decide +kernel
theorem dX6_settle_14 : decode cX6_settle 14 = .ok (.baload, 1) := by decide +kernel
theorem dX6_settle_15 : decode cX6_settle 15 = .ok (.ifCond .eq 4, 3) := by decide +kernel
