theorem dX8_rowIs_91 : decode cX8_rowIs 91 = .ok (.ireturn, 1) := by decide +kernel
theorem dX8_rowIs_92 : decode cX8_rowIs 92 = .ok (.aload_n 0, 1) := by decide +kernel
theorem dX8_rowIs_93 : decode cX8_rowIs 93 = .ok (.getfield 12, 3) := by decide +kernel
theorem dX8_rowIs_96 : decode cX8_rowIs 96 = .ok (.iload_n 1, 1) := by decide +kernel
theorem dX8_rowIs_97 : decode cX8_rowIs 97 = .ok (.invokevirtual 138, 3) := by decide +kernel
theorem dX8_rowIs_100 : decode cX8_rowIs 100 = .ok (.ifCond .eq 7, 3) := by decide +kernel
theorem dX8_rowIs_103 : decode cX8_rowIs 103 = .ok (.iconst 1, 1) := by decide +kernel
theorem dX8_rowIs_104 : decode cX8_rowIs 104 = .ok (.goto 4, 3) := by decide +kernel
theorem dX8_rowIs_107 : decode cX8_rowIs 107 = .ok (.iconst 0, 1) := by decide +kernel
theorem dX8_rowIs_108 : decode cX8_rowIs 108 = .ok (.ireturn, 1) := by decide +kernel
theorem dX8_rowIs_109 : decode cX8_rowIs 109 = .ok (.ldc 125, 2) := by decide +kernel
theorem dX8_rowIs_111 : decode cX8_rowIs 111 = .ok (.ireturn, 1) := by decide +kernel
theorem dX8_asOf_0 : decode cX8_asOf 0 = .ok (.iload_n 1, 1) := by decide +kernel
theorem dX8_asOf_1 : decode cX8_asOf 1 = .ok (.bipush 10, 2) := by decide +kernel
theorem dX8_asOf_3 : decode cX8_asOf 3 = .ok (.invokestatic 66, 3) := by decide +kernel
theorem dX8_asOf_6 : decode cX8_asOf 6 = .ok (.ifCond .ne 6, 3) := by decide +kernel
theorem dX8_asOf_9 : decode cX8_asOf 9 = .ok (.bipush (-2), 2) := by decide +kernel
theorem dX8_asOf_11 : decode cX8_asOf 11 = .ok (.ireturn, 1) := by decide +kernel
theorem dX8_asOf_12 : decode cX8_asOf 12 = .ok (.aload_n 0, 1) := by decide +kernel
theorem dX8_asOf_13 : decode cX8_asOf 13 = .ok (.getfield 12, 3) := by decide +kernel
theorem dX8_asOf_16 : decode cX8_asOf 16 = .ok (.getfield 141, 3) := by decide +kernel
theorem dX8_asOf_19 : decode cX8_asOf 19 = .ok (.istore_n 2, 1) := by decide +kernel
theorem dX8_asOf_20 : decode cX8_asOf 20 = .ok (.aload_n 0, 1) := by decide +kernel
theorem dX8_asOf_21 : decode cX8_asOf 21 = .ok (.getfield 12, 3) := by decide +kernel
theorem dX8_asOf_24 : decode cX8_asOf 24 = .ok (.iload_n 1, 1) := by decide +kernel
theorem dX8_asOf_25 : decode cX8_asOf 25 = .ok (.putfield 141, 3) := by decide +kernel
theorem dX8_asOf_28 : decode cX8_asOf 28 = .ok (.aload_n 0, 1) := by decide +kernel
theorem dX8_asOf_29 : decode cX8_asOf 29 = .ok (.getfield 21, 3) := by decide +kernel
theorem dX8_asOf_32 : decode cX8_asOf 32 = .ok (.invokevirtual 78, 3) := by decide +kernel
theorem dX8_asOf_35 : decode cX8_asOf 35 = .ok (.iload_n 2, 1) := by decide +kernel
theorem dX8_asOf_36 : decode cX8_asOf 36 = .ok (.ireturn, 1) := by decide +kernel
theorem dX8_column_0 : decode cX8_column 0 = .ok (.iload_n 1, 1) := by decide +kernel
theorem dX8_column_1 : decode cX8_column 1 = .ok (.bipush 6, 2) := by decide +kernel
theorem dX8_column_3 : decode cX8_column 3 = .ok (.invokestatic 66, 3) := by decide +kernel
theorem dX8_column_6 : decode cX8_column 6 = .ok (.ifCond .eq 12, 3) := by decide +kernel
theorem dX8_column_9 : decode cX8_column 9 = .ok (.iload_n 2, 1) := by decide +kernel
theorem dX8_column_10 : decode cX8_column 10 = .ok (.iconst 0, 1) := by decide +kernel
theorem dX8_column_11 : decode cX8_column 11 = .ok (.iconst 1, 1) := by decide +kernel
theorem dX8_column_12 : decode cX8_column 12 = .ok (.invokestatic 109, 3) := by decide +kernel
theorem dX8_column_15 : decode cX8_column 15 = .ok (.ifCond .ne 6, 3) := by decide +kernel
theorem dX8_column_18 : decode cX8_column 18 = .ok (.bipush (-2), 2) := by decide +kernel
theorem dX8_column_20 : decode cX8_column 20 = .ok (.ireturn, 1) := by decide +kernel
theorem dX8_column_21 : decode cX8_column 21 = .ok (.aload_n 0, 1) := by decide +kernel
theorem dX8_column_22 : decode cX8_column 22 = .ok (.getfield 21, 3) := by decide +kernel
theorem dX8_column_25 : decode cX8_column 25 = .ok (.getfield 144, 3) := by decide +kernel
theorem dX8_column_28 : decode cX8_column 28 = .ok (.iload_n 1, 1) := by decide +kernel
theorem dX8_column_29 : decode cX8_column 29 = .ok (.baload, 1) := by decide +kernel
theorem dX8_column_30 : decode cX8_column 30 = .ok (.ifCond .eq 7, 3) := by decide +kernel
theorem dX8_column_33 : decode cX8_column 33 = .ok (.iconst 1, 1) := by decide +kernel
theorem dX8_column_34 : decode cX8_column 34 = .ok (.goto 4, 3) := by decide +kernel
theorem dX8_column_37 : decode cX8_column 37 = .ok (.iconst 0, 1) := by decide +kernel
theorem dX8_column_38 : decode cX8_column 38 = .ok (.istore_n 3, 1) := by decide +kernel
theorem dX8_column_39 : decode cX8_column 39 = .ok (.aload_n 0, 1) := by decide +kernel
theorem dX8_column_40 : decode cX8_column 40 = .ok (.getfield 21, 3) := by decide +kernel
theorem dX8_column_43 : decode cX8_column 43 = .ok (.getfield 144, 3) := by decide +kernel
theorem dX8_column_46 : decode cX8_column 46 = .ok (.iload_n 1, 1) := by decide +kernel
theorem dX8_column_47 : decode cX8_column 47 = .ok (.iload_n 2, 1) := by decide +kernel
theorem dX8_column_48 : decode cX8_column 48 = .ok (.iconst 1, 1) := by decide +kernel
theorem dX8_column_49 : decode cX8_column 49 = .ok (.if_icmp .ne 7, 3) := by decide +kernel
theorem dX8_column_52 : decode cX8_column 52 = .ok (.iconst 1, 1) := by decide +kernel
theorem dX8_column_53 : decode cX8_column 53 = .ok (.goto 4, 3) := by decide +kernel
theorem dX8_column_56 : decode cX8_column 56 = .ok (.iconst 0, 1) := by decide +kernel
theorem dX8_column_57 : decode cX8_column 57 = .ok (.bastore, 1) := by decide +kernel
theorem dX8_column_58 : decode cX8_column 58 = .ok (.aload_n 0, 1) := by decide +kernel
theorem dX8_column_59 : decode cX8_column 59 = .ok (.getfield 21, 3) := by decide +kernel
theorem dX8_column_62 : decode cX8_column 62 = .ok (.invokevirtual 78, 3) := by decide +kernel
theorem dX8_column_65 : decode cX8_column 65 = .ok (.iload_n 3, 1) := by decide +kernel
theorem dX8_column_66 : decode cX8_column 66 = .ok (.ireturn, 1) := by decide +kernel
theorem dX8_said_0 : decode cX8_said 0 = .ok (.iload_n 1, 1) := by decide +kernel
theorem dX8_said_1 : decode cX8_said 1 = .ok (.sipush 720, 3) := by decide +kernel
theorem dX8_said_4 : decode cX8_said 4 = .ok (.invokestatic 66, 3) := by decide +kernel
theorem dX8_said_7 : decode cX8_said 7 = .ok (.ifCond .ne 9, 3) := by decide +kernel
theorem dX8_said_10 : decode cX8_said 10 = .ok (.bipush (-2), 2) := by decide +kernel
theorem dX8_said_12 : decode cX8_said 12 = .ok (.invokestatic 148, 3) := by decide +kernel
theorem dX8_said_15 : decode cX8_said 15 = .ok (.lreturn, 1) := by decide +kernel
theorem dX8_said_16 : decode cX8_said 16 = .ok (.aload_n 0, 1) := by decide +kernel
theorem dX8_said_17 : decode cX8_said 17 = .ok (.getfield 12, 3) := by decide +kernel
theorem dX8_said_20 : decode cX8_said 20 = .ok (.iload_n 1, 1) := by decide +kernel
theorem dX8_said_21 : decode cX8_said 21 = .ok (.aload_n 0, 1) := by decide +kernel
theorem dX8_said_22 : decode cX8_said 22 = .ok (.getfield 12, 3) := by decide +kernel
theorem dX8_said_25 : decode cX8_said 25 = .ok (.getfield 141, 3) := by decide +kernel
theorem dX8_said_28 : decode cX8_said 28 = .ok (.bipush 9, 2) := by decide +kernel
theorem dX8_said_30 : decode cX8_said 30 = .ok (.invokevirtual 152, 3) := by decide +kernel
theorem dX8_said_33 : decode cX8_said 33 = .ok (.aload_n 0, 1) := by decide +kernel
theorem dX8_said_34 : decode cX8_said 34 = .ok (.getfield 12, 3) := by decide +kernel
theorem dX8_said_37 : decode cX8_said 37 = .ok (.getfield 155, 3) := by decide +kernel
theorem dX8_said_40 : decode cX8_said 40 = .ok (.ifCond .ne 11, 3) := by decide +kernel
theorem dX8_said_43 : decode cX8_said 43 = .ok (.bipush (-3), 2) := by decide +kernel
theorem dX8_said_45 : decode cX8_said 45 = .ok (.invokestatic 148, 3) := by decide +kernel
theorem dX8_said_48 : decode cX8_said 48 = .ok (.goto 11, 3) := by decide +kernel
theorem dX8_said_51 : decode cX8_said 51 = .ok (.aload_n 0, 1) := by decide +kernel
theorem dX8_said_52 : decode cX8_said 52 = .ok (.getfield 12, 3) := by decide +kernel
theorem dX8_said_55 : decode cX8_said 55 = .ok (.getfield 158, 3) := by decide +kernel
theorem dX8_said_58 : decode cX8_said 58 = .ok (.i2l, 1) := by decide +kernel
theorem dX8_said_59 : decode cX8_said 59 = .ok (.lreturn, 1) := by decide +kernel
theorem dX8_weight_0 : decode cX8_weight 0 = .ok (.iload_n 1, 1) := by decide +kernel
theorem dX8_weight_1 : decode cX8_weight 1 = .ok (.sipush 720, 3) := by decide +kernel
theorem dX8_weight_4 : decode cX8_weight 4 = .ok (.invokestatic 66, 3) := by decide +kernel
theorem dX8_weight_7 : decode cX8_weight 7 = .ok (.ifCond .ne 6, 3) := by decide +kernel
theorem dX8_weight_10 : decode cX8_weight 10 = .ok (.bipush (-2), 2) := by decide +kernel
theorem dX8_weight_12 : decode cX8_weight 12 = .ok (.ireturn, 1) := by decide +kernel
theorem dX8_weight_13 : decode cX8_weight 13 = .ok (.aload_n 0, 1) := by decide +kernel
theorem dX8_weight_14 : decode cX8_weight 14 = .ok (.getfield 12, 3) := by decide +kernel
theorem dX8_weight_17 : decode cX8_weight 17 = .ok (.iload_n 1, 1) := by decide +kernel
theorem dX8_weight_18 : decode cX8_weight 18 = .ok (.aload_n 0, 1) := by decide +kernel
theorem dX8_weight_19 : decode cX8_weight 19 = .ok (.getfield 12, 3) := by decide +kernel
theorem dX8_weight_22 : decode cX8_weight 22 = .ok (.getfield 141, 3) := by decide +kernel
theorem dX8_weight_25 : decode cX8_weight 25 = .ok (.bipush 9, 2) := by decide +kernel
theorem dX8_weight_27 : decode cX8_weight 27 = .ok (.invokevirtual 152, 3) := by decide +kernel
theorem dX8_weight_30 : decode cX8_weight 30 = .ok (.aload_n 0, 1) := by decide +kernel
theorem dX8_weight_31 : decode cX8_weight 31 = .ok (.getfield 12, 3) := by decide +kernel
theorem dX8_weight_34 : decode cX8_weight 34 = .ok (.getfield 155, 3) := by decide +kernel
theorem dX8_weight_37 : decode cX8_weight 37 = .ok (.ireturn, 1) := by decide +kernel
theorem dX8_bent_0 : decode cX8_bent 0 = .ok (.iload_n 1, 1) := by decide +kernel
theorem dX8_bent_1 : decode cX8_bent 1 = .ok (.sipush 576, 3) := by decide +kernel
theorem dX8_bent_4 : decode cX8_bent 4 = .ok (.invokestatic 66, 3) := by decide +kernel
theorem dX8_bent_7 : decode cX8_bent 7 = .ok (.ifCond .ne 9, 3) := by decide +kernel
theorem dX8_bent_10 : decode cX8_bent 10 = .ok (.bipush (-2), 2) := by decide +kernel
theorem dX8_bent_12 : decode cX8_bent 12 = .ok (.invokestatic 148, 3) := by decide +kernel
theorem dX8_bent_15 : decode cX8_bent 15 = .ok (.lreturn, 1) := by decide +kernel
theorem dX8_bent_16 : decode cX8_bent 16 = .ok (.aload_n 0, 1) := by decide +kernel
theorem dX8_bent_17 : decode cX8_bent 17 = .ok (.getfield 21, 3) := by decide +kernel
theorem dX8_bent_20 : decode cX8_bent 20 = .ok (.iload_n 1, 1) := by decide +kernel
theorem dX8_bent_21 : decode cX8_bent 21 = .ok (.invokestatic 92, 3) := by decide +kernel
theorem dX8_bent_24 : decode cX8_bent 24 = .ok (.iload_n 1, 1) := by decide +kernel
theorem dX8_bent_25 : decode cX8_bent 25 = .ok (.invokestatic 96, 3) := by decide +kernel
theorem dX8_bent_28 : decode cX8_bent 28 = .ok (.iload_n 1, 1) := by decide +kernel
theorem dX8_bent_29 : decode cX8_bent 29 = .ok (.invokestatic 115, 3) := by decide +kernel
theorem dX8_bent_32 : decode cX8_bent 32 = .ok (.invokevirtual 161, 3) := by decide +kernel
theorem dX8_bent_35 : decode cX8_bent 35 = .ok (.aload_n 0, 1) := by decide +kernel
theorem dX8_bent_36 : decode cX8_bent 36 = .ok (.getfield 21, 3) := by decide +kernel
theorem dX8_bent_39 : decode cX8_bent 39 = .ok (.getfield 164, 3) := by decide +kernel
theorem dX8_bent_42 : decode cX8_bent 42 = .ok (.iload_n 1, 1) := by decide +kernel
theorem dX8_bent_43 : decode cX8_bent 43 = .ok (.laload, 1) := by decide +kernel
theorem dX8_bent_44 : decode cX8_bent 44 = .ok (.lreturn, 1) := by decide +kernel
theorem dX8_shape_0 : decode cX8_shape 0 = .ok (.iload_n 1, 1) := by decide +kernel
theorem dX8_shape_1 : decode cX8_shape 1 = .ok (.sipush 720, 3) := by decide +kernel
theorem dX8_shape_4 : decode cX8_shape 4 = .ok (.invokestatic 66, 3) := by decide +kernel
theorem dX8_shape_7 : decode cX8_shape 7 = .ok (.ifCond .eq 10, 3) := by decide +kernel
theorem dX8_shape_10 : decode cX8_shape 10 = .ok (.iload_n 1, 1) := by decide +kernel
theorem dX8_shape_11 : decode cX8_shape 11 = .ok (.invokestatic 105, 3) := by decide +kernel
theorem dX8_shape_14 : decode cX8_shape 14 = .ok (.ifCond .ne 9, 3) := by decide +kernel
theorem dX8_shape_17 : decode cX8_shape 17 = .ok (.bipush (-2), 2) := by decide +kernel
theorem dX8_shape_19 : decode cX8_shape 19 = .ok (.invokestatic 148, 3) := by decide +kernel
theorem dX8_shape_22 : decode cX8_shape 22 = .ok (.lreturn, 1) := by decide +kernel
theorem dX8_shape_23 : decode cX8_shape 23 = .ok (.aload_n 0, 1) := by decide +kernel
theorem dX8_shape_24 : decode cX8_shape 24 = .ok (.getfield 21, 3) := by decide +kernel
theorem dX8_shape_27 : decode cX8_shape 27 = .ok (.iload_n 1, 1) := by decide +kernel
theorem dX8_shape_28 : decode cX8_shape 28 = .ok (.invokestatic 92, 3) := by decide +kernel
theorem dX8_shape_31 : decode cX8_shape 31 = .ok (.iload_n 1, 1) := by decide +kernel
theorem dX8_shape_32 : decode cX8_shape 32 = .ok (.invokestatic 96, 3) := by decide +kernel
theorem dX8_shape_35 : decode cX8_shape 35 = .ok (.iload_n 1, 1) := by decide +kernel
theorem dX8_shape_36 : decode cX8_shape 36 = .ok (.invokestatic 115, 3) := by decide +kernel
theorem dX8_shape_39 : decode cX8_shape 39 = .ok (.invokevirtual 161, 3) := by decide +kernel
theorem dX8_shape_42 : decode cX8_shape 42 = .ok (.aload_n 0, 1) := by decide +kernel
theorem dX8_shape_43 : decode cX8_shape 43 = .ok (.getfield 21, 3) := by decide +kernel
theorem dX8_shape_46 : decode cX8_shape 46 = .ok (.iload_n 1, 1) := by decide +kernel
theorem dX8_shape_47 : decode cX8_shape 47 = .ok (.invokevirtual 168, 3) := by decide +kernel
theorem dX8_shape_50 : decode cX8_shape 50 = .ok (.ifCond .eq 14, 3) := by decide +kernel
theorem dX8_shape_53 : decode cX8_shape 53 = .ok (.aload_n 0, 1) := by decide +kernel
theorem dX8_shape_54 : decode cX8_shape 54 = .ok (.getfield 21, 3) := by decide +kernel
theorem dX8_shape_57 : decode cX8_shape 57 = .ok (.iload_n 1, 1) := by decide +kernel
theorem dX8_shape_58 : decode cX8_shape 58 = .ok (.invokevirtual 171, 3) := by decide +kernel
theorem dX8_shape_61 : decode cX8_shape 61 = .ok (.goto 8, 3) := by decide +kernel
theorem dX8_shape_64 : decode cX8_shape 64 = .ok (.bipush (-3), 2) := by decide +kernel
theorem dX8_shape_66 : decode cX8_shape 66 = .ok (.invokestatic 148, 3) := by decide +kernel
theorem dX8_shape_69 : decode cX8_shape 69 = .ok (.lreturn, 1) := by decide +kernel
theorem dX8_fix_0 : decode cX8_fix 0 = .ok (.iload_n 1, 1) := by decide +kernel
theorem dX8_fix_1 : decode cX8_fix 1 = .ok (.iload_n 2, 1) := by decide +kernel
theorem dX8_fix_2 : decode cX8_fix 2 = .ok (.iload_n 3, 1) := by decide +kernel
theorem dX8_fix_3 : decode cX8_fix 3 = .ok (.invokestatic 81, 3) := by decide +kernel
theorem dX8_fix_6 : decode cX8_fix 6 = .ok (.ifCond .ne 6, 3) := by decide +kernel
theorem dX8_fix_9 : decode cX8_fix 9 = .ok (.bipush (-2), 2) := by decide +kernel
theorem dX8_fix_11 : decode cX8_fix 11 = .ok (.ireturn, 1) := by decide +kernel
theorem dX8_fix_12 : decode cX8_fix 12 = .ok (.iload_n 1, 1) := by decide +kernel
theorem dX8_fix_13 : decode cX8_fix 13 = .ok (.iload_n 2, 1) := by decide +kernel
theorem dX8_fix_14 : decode cX8_fix 14 = .ok (.iload_n 3, 1) := by decide +kernel
theorem dX8_fix_15 : decode cX8_fix 15 = .ok (.invokestatic 174, 3) := by decide +kernel
theorem dX8_fix_18 : decode cX8_fix 18 = .ok (.istore 5, 2) := by decide +kernel
theorem dX8_fix_20 : decode cX8_fix 20 = .ok (.aload_n 0, 1) := by decide +kernel
theorem dX8_fix_21 : decode cX8_fix 21 = .ok (.getfield 21, 3) := by decide +kernel
theorem dX8_fix_24 : decode cX8_fix 24 = .ok (.getfield 178, 3) := by decide +kernel
theorem dX8_fix_27 : decode cX8_fix 27 = .ok (.iload 5, 2) := by decide +kernel
theorem dX8_fix_29 : decode cX8_fix 29 = .ok (.baload, 1) := by decide +kernel
theorem dX8_fix_30 : decode cX8_fix 30 = .ok (.iload 4, 2) := by decide +kernel
theorem dX8_fix_32 : decode cX8_fix 32 = .ok (.if_icmp .ne 5, 3) := by decide +kernel
theorem dX8_fix_35 : decode cX8_fix 35 = .ok (.iconst 0, 1) := by decide +kernel
theorem dX8_fix_36 : decode cX8_fix 36 = .ok (.ireturn, 1) := by decide +kernel
theorem dX8_fix_37 : decode cX8_fix 37 = .ok (.aload_n 0, 1) := by decide +kernel
theorem dX8_fix_38 : decode cX8_fix 38 = .ok (.getfield 21, 3) := by decide +kernel
theorem dX8_fix_41 : decode cX8_fix 41 = .ok (.getfield 178, 3) := by decide +kernel
theorem dX8_fix_44 : decode cX8_fix 44 = .ok (.iload 5, 2) := by decide +kernel
theorem dX8_fix_46 : decode cX8_fix 46 = .ok (.iload 4, 2) := by decide +kernel
theorem dX8_fix_48 : decode cX8_fix 48 = .ok (.bastore, 1) := by decide +kernel
theorem dX8_fix_49 : decode cX8_fix 49 = .ok (.iconst 0, 1) := by decide +kernel
theorem dX8_fix_50 : decode cX8_fix 50 = .ok (.istore 6, 2) := by decide +kernel
theorem dX8_fix_52 : decode cX8_fix 52 = .ok (.iload 6, 2) := by decide +kernel
theorem dX8_fix_54 : decode cX8_fix 54 = .ok (.iconst 3, 1) := by decide +kernel
theorem dX8_fix_55 : decode cX8_fix 55 = .ok (.if_icmp .ge 20, 3) := by decide +kernel
theorem dX8_fix_58 : decode cX8_fix 58 = .ok (.aload_n 0, 1) := by decide +kernel
theorem dX8_fix_59 : decode cX8_fix 59 = .ok (.getfield 21, 3) := by decide +kernel
theorem dX8_fix_62 : decode cX8_fix 62 = .ok (.iload_n 1, 1) := by decide +kernel
theorem dX8_fix_63 : decode cX8_fix 63 = .ok (.iload_n 2, 1) := by decide +kernel
theorem dX8_fix_64 : decode cX8_fix 64 = .ok (.iload 6, 2) := by decide +kernel
theorem dX8_fix_66 : decode cX8_fix 66 = .ok (.invokevirtual 118, 3) := by decide +kernel
theorem dX8_fix_69 : decode cX8_fix 69 = .ok (.iinc 6 1, 3) := by decide +kernel
theorem dX8_fix_72 : decode cX8_fix 72 = .ok (.goto (-20), 3) := by decide +kernel
theorem dX8_fix_75 : decode cX8_fix 75 = .ok (.iconst 1, 1) := by decide +kernel
theorem dX8_fix_76 : decode cX8_fix 76 = .ok (.ireturn, 1) := by decide +kernel
theorem dX8_rule_0 : decode cX8_rule 0 = .ok (.iload_n 1, 1) := by decide +kernel
theorem dX8_rule_1 : decode cX8_rule 1 = .ok (.iconst 0, 1) := by decide +kernel
theorem dX8_rule_2 : decode cX8_rule 2 = .ok (.iconst 1, 1) := by decide +kernel
theorem dX8_rule_3 : decode cX8_rule 3 = .ok (.invokestatic 109, 3) := by decide +kernel
theorem dX8_rule_6 : decode cX8_rule 6 = .ok (.ifCond .ne 6, 3) := by decide +kernel
theorem dX8_rule_9 : decode cX8_rule 9 = .ok (.bipush (-2), 2) := by decide +kernel
theorem dX8_rule_11 : decode cX8_rule 11 = .ok (.ireturn, 1) := by decide +kernel
theorem dX8_rule_12 : decode cX8_rule 12 = .ok (.aload_n 0, 1) := by decide +kernel
theorem dX8_rule_13 : decode cX8_rule 13 = .ok (.getfield 21, 3) := by decide +kernel
theorem dX8_rule_16 : decode cX8_rule 16 = .ok (.getfield 181, 3) := by decide +kernel
theorem dX8_rule_19 : decode cX8_rule 19 = .ok (.istore_n 2, 1) := by decide +kernel
theorem dX8_rule_20 : decode cX8_rule 20 = .ok (.aload_n 0, 1) := by decide +kernel
theorem dX8_rule_21 : decode cX8_rule 21 = .ok (.getfield 21, 3) := by decide +kernel
theorem dX8_rule_24 : decode cX8_rule 24 = .ok (.iload_n 1, 1) := by decide +kernel
theorem dX8_rule_25 : decode cX8_rule 25 = .ok (.putfield 181, 3) := by decide +kernel
theorem dX8_rule_28 : decode cX8_rule 28 = .ok (.aload_n 0, 1) := by decide +kernel
theorem dX8_rule_29 : decode cX8_rule 29 = .ok (.getfield 21, 3) := by decide +kernel
theorem dX8_rule_32 : decode cX8_rule 32 = .ok (.invokevirtual 78, 3) := by decide +kernel
theorem dX8_rule_35 : decode cX8_rule 35 = .ok (.iload_n 2, 1) := by decide +kernel
theorem dX8_rule_36 : decode cX8_rule 36 = .ok (.ireturn, 1) := by decide +kernel
theorem dX8_gap_0 : decode cX8_gap 0 = .ok (.iload_n 1, 1) := by decide +kernel
theorem dX8_gap_1 : decode cX8_gap 1 = .ok (.iload_n 2, 1) := by decide +kernel
theorem dX8_gap_2 : decode cX8_gap 2 = .ok (.iload_n 3, 1) := by decide +kernel
theorem dX8_gap_3 : decode cX8_gap 3 = .ok (.invokestatic 184, 3) := by decide +kernel
theorem dX8_gap_6 : decode cX8_gap 6 = .ok (.ifCond .ne 9, 3) := by decide +kernel
theorem dX8_gap_9 : decode cX8_gap 9 = .ok (.bipush (-2), 2) := by decide +kernel
theorem dX8_gap_11 : decode cX8_gap 11 = .ok (.invokestatic 148, 3) := by decide +kernel
theorem dX8_gap_14 : decode cX8_gap 14 = .ok (.lreturn, 1) := by decide +kernel
theorem dX8_gap_15 : decode cX8_gap 15 = .ok (.aload_n 0, 1) := by decide +kernel
theorem dX8_gap_16 : decode cX8_gap 16 = .ok (.getfield 21, 3) := by decide +kernel
theorem dX8_gap_19 : decode cX8_gap 19 = .ok (.iload_n 1, 1) := by decide +kernel
theorem dX8_gap_20 : decode cX8_gap 20 = .ok (.iload_n 2, 1) := by decide +kernel
theorem dX8_gap_21 : decode cX8_gap 21 = .ok (.iload_n 3, 1) := by decide +kernel
theorem dX8_gap_22 : decode cX8_gap 22 = .ok (.iconst 4, 1) := by decide +kernel
theorem dX8_gap_23 : decode cX8_gap 23 = .ok (.idiv, 1) := by decide +kernel
theorem dX8_gap_24 : decode cX8_gap 24 = .ok (.invokevirtual 161, 3) := by decide +kernel
theorem dX8_gap_27 : decode cX8_gap 27 = .ok (.aload_n 0, 1) := by decide +kernel
theorem dX8_gap_28 : decode cX8_gap 28 = .ok (.getfield 21, 3) := by decide +kernel
theorem dX8_gap_31 : decode cX8_gap 31 = .ok (.iload_n 1, 1) := by decide +kernel
theorem dX8_gap_32 : decode cX8_gap 32 = .ok (.iload_n 2, 1) := by decide +kernel
theorem dX8_gap_33 : decode cX8_gap 33 = .ok (.iload_n 3, 1) := by decide +kernel
theorem dX8_gap_34 : decode cX8_gap 34 = .ok (.invokevirtual 187, 3) := by decide +kernel
theorem dX8_gap_37 : decode cX8_gap 37 = .ok (.lreturn, 1) := by decide +kernel
theorem dX8_closed_0 : decode cX8_closed 0 = .ok (.iload_n 1, 1) := by decide +kernel
theorem dX8_closed_1 : decode cX8_closed 1 = .ok (.sipush 576, 3) := by decide +kernel
theorem dX8_closed_4 : decode cX8_closed 4 = .ok (.invokestatic 66, 3) := by decide +kernel
theorem dX8_closed_7 : decode cX8_closed 7 = .ok (.ifCond .ne 9, 3) := by decide +kernel
theorem dX8_closed_10 : decode cX8_closed 10 = .ok (.bipush (-2), 2) := by decide +kernel
theorem dX8_closed_12 : decode cX8_closed 12 = .ok (.invokestatic 148, 3) := by decide +kernel
theorem dX8_closed_15 : decode cX8_closed 15 = .ok (.lreturn, 1) := by decide +kernel
theorem dX8_closed_16 : decode cX8_closed 16 = .ok (.aload_n 0, 1) := by decide +kernel
theorem dX8_closed_17 : decode cX8_closed 17 = .ok (.getfield 21, 3) := by decide +kernel
theorem dX8_closed_20 : decode cX8_closed 20 = .ok (.iload_n 1, 1) := by decide +kernel
theorem dX8_closed_21 : decode cX8_closed 21 = .ok (.invokestatic 92, 3) := by decide +kernel
theorem dX8_closed_24 : decode cX8_closed 24 = .ok (.iload_n 1, 1) := by decide +kernel
theorem dX8_closed_25 : decode cX8_closed 25 = .ok (.invokestatic 96, 3) := by decide +kernel
theorem dX8_closed_28 : decode cX8_closed 28 = .ok (.iload_n 1, 1) := by decide +kernel
theorem dX8_closed_29 : decode cX8_closed 29 = .ok (.invokestatic 115, 3) := by decide +kernel
theorem dX8_closed_32 : decode cX8_closed 32 = .ok (.invokevirtual 161, 3) := by decide +kernel
theorem dX8_closed_35 : decode cX8_closed 35 = .ok (.aload_n 0, 1) := by decide +kernel
theorem dX8_closed_36 : decode cX8_closed 36 = .ok (.getfield 21, 3) := by decide +kernel
theorem dX8_closed_39 : decode cX8_closed 39 = .ok (.getfield 191, 3) := by decide +kernel
theorem dX8_closed_42 : decode cX8_closed 42 = .ok (.iload_n 1, 1) := by decide +kernel
theorem dX8_closed_43 : decode cX8_closed 43 = .ok (.laload, 1) := by decide +kernel
theorem dX8_closed_44 : decode cX8_closed 44 = .ok (.lreturn, 1) := by decide +kernel
theorem dX8_moved_0 : decode cX8_moved 0 = .ok (.iload_n 1, 1) := by decide +kernel
theorem dX8_moved_1 : decode cX8_moved 1 = .ok (.iload_n 2, 1) := by decide +kernel
theorem dX8_moved_2 : decode cX8_moved 2 = .ok (.iload_n 3, 1) := by decide +kernel
theorem dX8_moved_3 : decode cX8_moved 3 = .ok (.invokestatic 184, 3) := by decide +kernel
theorem dX8_moved_6 : decode cX8_moved 6 = .ok (.ifCond .ne 9, 3) := by decide +kernel
theorem dX8_moved_9 : decode cX8_moved 9 = .ok (.bipush (-2), 2) := by decide +kernel
theorem dX8_moved_11 : decode cX8_moved 11 = .ok (.invokestatic 148, 3) := by decide +kernel
theorem dX8_moved_14 : decode cX8_moved 14 = .ok (.lreturn, 1) := by decide +kernel
theorem dX8_moved_15 : decode cX8_moved 15 = .ok (.aload_n 0, 1) := by decide +kernel
theorem dX8_moved_16 : decode cX8_moved 16 = .ok (.getfield 21, 3) := by decide +kernel
theorem dX8_moved_19 : decode cX8_moved 19 = .ok (.iload_n 1, 1) := by decide +kernel
theorem dX8_moved_20 : decode cX8_moved 20 = .ok (.iload_n 2, 1) := by decide +kernel
theorem dX8_moved_21 : decode cX8_moved 21 = .ok (.iload_n 3, 1) := by decide +kernel
theorem dX8_moved_22 : decode cX8_moved 22 = .ok (.iconst 4, 1) := by decide +kernel
theorem dX8_moved_23 : decode cX8_moved 23 = .ok (.idiv, 1) := by decide +kernel
theorem dX8_moved_24 : decode cX8_moved 24 = .ok (.invokevirtual 161, 3) := by decide +kernel
theorem dX8_moved_27 : decode cX8_moved 27 = .ok (.aload_n 0, 1) := by decide +kernel
theorem dX8_moved_28 : decode cX8_moved 28 = .ok (.getfield 21, 3) := by decide +kernel
theorem dX8_moved_31 : decode cX8_moved 31 = .ok (.iload_n 1, 1) := by decide +kernel
theorem dX8_moved_32 : decode cX8_moved 32 = .ok (.iload_n 2, 1) := by decide +kernel
theorem dX8_moved_33 : decode cX8_moved 33 = .ok (.iload_n 3, 1) := by decide +kernel
theorem dX8_moved_34 : decode cX8_moved 34 = .ok (.invokevirtual 194, 3) := by decide +kernel
theorem dX8_moved_37 : decode cX8_moved 37 = .ok (.ifCond .eq 9, 3) := by decide +kernel
theorem dX8_moved_40 : decode cX8_moved 40 = .ok (.bipush (-3), 2) := by decide +kernel
theorem dX8_moved_42 : decode cX8_moved 42 = .ok (.invokestatic 148, 3) := by decide +kernel
theorem dX8_moved_45 : decode cX8_moved 45 = .ok (.lreturn, 1) := by decide +kernel
theorem dX8_moved_46 : decode cX8_moved 46 = .ok (.aload_n 0, 1) := by decide +kernel
theorem dX8_moved_47 : decode cX8_moved 47 = .ok (.getfield 21, 3) := by decide +kernel
theorem dX8_moved_50 : decode cX8_moved 50 = .ok (.iload_n 1, 1) := by decide +kernel
theorem dX8_moved_51 : decode cX8_moved 51 = .ok (.iload_n 2, 1) := by decide +kernel
theorem dX8_moved_52 : decode cX8_moved 52 = .ok (.iload_n 3, 1) := by decide +kernel
theorem dX8_moved_53 : decode cX8_moved 53 = .ok (.invokevirtual 197, 3) := by decide +kernel
theorem dX8_moved_56 : decode cX8_moved 56 = .ok (.lreturn, 1) := by decide +kernel
theorem dX8_total_0 : decode cX8_total 0 = .ok (.iload_n 1, 1) := by decide +kernel
theorem dX8_total_1 : decode cX8_total 1 = .ok (.iconst (-1), 1) := by decide +kernel
theorem dX8_total_2 : decode cX8_total 2 = .ok (.iconst 1, 1) := by decide +kernel
theorem dX8_total_3 : decode cX8_total 3 = .ok (.invokestatic 109, 3) := by decide +kernel
theorem dX8_total_6 : decode cX8_total 6 = .ok (.ifCond .eq 31, 3) := by decide +kernel
theorem dX8_total_9 : decode cX8_total 9 = .ok (.iload_n 2, 1) := by decide +kernel
theorem dX8_total_10 : decode cX8_total 10 = .ok (.iconst (-1), 1) := by decide +kernel
theorem dX8_total_11 : decode cX8_total 11 = .ok (.iconst 3, 1) := by decide +kernel
theorem dX8_total_12 : decode cX8_total 12 = .ok (.invokestatic 109, 3) := by decide +kernel
theorem dX8_total_15 : decode cX8_total 15 = .ok (.ifCond .eq 22, 3) := by decide +kernel
theorem dX8_total_18 : decode cX8_total 18 = .ok (.iload_n 3, 1) := by decide +kernel
theorem dX8_total_19 : decode cX8_total 19 = .ok (.bipush 6, 2) := by decide +kernel
theorem dX8_total_21 : decode cX8_total 21 = .ok (.invokestatic 66, 3) := by decide +kernel
theorem dX8_total_24 : decode cX8_total 24 = .ok (.ifCond .eq 13, 3) := by decide +kernel
theorem dX8_total_27 : decode cX8_total 27 = .ok (.iload 4, 2) := by decide +kernel
theorem dX8_total_29 : decode cX8_total 29 = .ok (.bipush 12, 2) := by decide +kernel
theorem dX8_total_31 : decode cX8_total 31 = .ok (.invokestatic 66, 3) := by decide +kernel
theorem dX8_total_34 : decode cX8_total 34 = .ok (.ifCond .ne 9, 3) := by decide +kernel
theorem dX8_total_37 : decode cX8_total 37 = .ok (.bipush (-2), 2) := by decide +kernel
theorem dX8_total_39 : decode cX8_total 39 = .ok (.invokestatic 148, 3) := by decide +kernel
theorem dX8_total_42 : decode cX8_total 42 = .ok (.lreturn, 1) := by decide +kernel
theorem dX8_total_43 : decode cX8_total 43 = .ok (.aload_n 0, 1) := by decide +kernel
theorem dX8_total_44 : decode cX8_total 44 = .ok (.getfield 21, 3) := by decide +kernel
theorem dX8_total_47 : decode cX8_total 47 = .ok (.invokevirtual 200, 3) := by decide +kernel
theorem dX8_total_50 : decode cX8_total 50 = .ok (.aload_n 0, 1) := by decide +kernel
theorem dX8_total_51 : decode cX8_total 51 = .ok (.getfield 21, 3) := by decide +kernel
theorem dX8_total_54 : decode cX8_total 54 = .ok (.iload_n 1, 1) := by decide +kernel
theorem dX8_total_55 : decode cX8_total 55 = .ok (.iload_n 2, 1) := by decide +kernel
theorem dX8_total_56 : decode cX8_total 56 = .ok (.iload_n 3, 1) := by decide +kernel
theorem dX8_total_57 : decode cX8_total 57 = .ok (.iload 4, 2) := by decide +kernel
theorem dX8_total_59 : decode cX8_total 59 = .ok (.invokevirtual 203, 3) := by decide +kernel
theorem dX8_total_62 : decode cX8_total 62 = .ok (.lreturn, 1) := by decide +kernel
theorem dX8_open_0 : decode cX8_open 0 = .ok (.aload_n 0, 1) := by decide +kernel
theorem dX8_open_1 : decode cX8_open 1 = .ok (.getfield 21, 3) := by decide +kernel
theorem dX8_open_4 : decode cX8_open 4 = .ok (.invokevirtual 200, 3) := by decide +kernel
theorem dX8_open_7 : decode cX8_open 7 = .ok (.aload_n 0, 1) := by decide +kernel
theorem dX8_open_8 : decode cX8_open 8 = .ok (.getfield 21, 3) := by decide +kernel
theorem dX8_open_11 : decode cX8_open 11 = .ok (.invokevirtual 207, 3) := by decide +kernel
theorem dX8_open_14 : decode cX8_open 14 = .ok (.ireturn, 1) := by decide +kernel
theorem dX8_broken_0 : decode cX8_broken 0 = .ok (.aload_n 0, 1) := by decide +kernel
theorem dX8_broken_1 : decode cX8_broken 1 = .ok (.getfield 21, 3) := by decide +kernel
theorem dX8_broken_4 : decode cX8_broken 4 = .ok (.invokevirtual 200, 3) := by decide +kernel
theorem dX8_broken_7 : decode cX8_broken 7 = .ok (.aload_n 0, 1) := by decide +kernel
theorem dX8_broken_8 : decode cX8_broken 8 = .ok (.getfield 21, 3) := by decide +kernel
theorem dX8_broken_11 : decode cX8_broken 11 = .ok (.invokevirtual 211, 3) := by decide +kernel
theorem dX8_broken_14 : decode cX8_broken 14 = .ok (.ireturn, 1) := by decide +kernel
theorem dX8_breaks_0 : decode cX8_breaks 0 = .ok (.iload_n 1, 1) := by decide +kernel
theorem dX8_breaks_1 : decode cX8_breaks 1 = .ok (.ifCond .ge 6, 3) := by decide +kernel
theorem dX8_breaks_4 : decode cX8_breaks 4 = .ok (.bipush (-2), 2) := by decide +kernel
theorem dX8_breaks_6 : decode cX8_breaks 6 = .ok (.ireturn, 1) := by decide +kernel
theorem dX8_breaks_7 : decode cX8_breaks 7 = .ok (.aload_n 0, 1) := by decide +kernel
theorem dX8_breaks_8 : decode cX8_breaks 8 = .ok (.getfield 21, 3) := by decide +kernel
theorem dX8_breaks_11 : decode cX8_breaks 11 = .ok (.invokevirtual 200, 3) := by decide +kernel
theorem dX8_breaks_14 : decode cX8_breaks 14 = .ok (.aload_n 0, 1) := by decide +kernel
theorem dX8_breaks_15 : decode cX8_breaks 15 = .ok (.getfield 21, 3) := by decide +kernel
theorem dX8_breaks_18 : decode cX8_breaks 18 = .ok (.iload_n 1, 1) := by decide +kernel
theorem dX8_breaks_19 : decode cX8_breaks 19 = .ok (.invokevirtual 214, 3) := by decide +kernel
theorem dX8_breaks_22 : decode cX8_breaks 22 = .ok (.ireturn, 1) := by decide +kernel
theorem dX8_price_0 : decode cX8_price 0 = .ok (.iload_n 1, 1) := by decide +kernel
theorem dX8_price_1 : decode cX8_price 1 = .ok (.iconst 4, 1) := by decide +kernel
theorem dX8_price_2 : decode cX8_price 2 = .ok (.invokestatic 66, 3) := by decide +kernel
theorem dX8_price_5 : decode cX8_price 5 = .ok (.ifCond .eq 24, 3) := by decide +kernel
theorem dX8_price_8 : decode cX8_price 8 = .ok (.iload_n 2, 1) := by decide +kernel
theorem dX8_price_9 : decode cX8_price 9 = .ok (.bipush 12, 2) := by decide +kernel
theorem dX8_price_11 : decode cX8_price 11 = .ok (.invokestatic 66, 3) := by decide +kernel
theorem dX8_price_14 : decode cX8_price 14 = .ok (.ifCond .eq 15, 3) := by decide +kernel
theorem dX8_price_17 : decode cX8_price 17 = .ok (.iload_n 3, 1) := by decide +kernel
theorem dX8_price_18 : decode cX8_price 18 = .ok (.bipush 10, 2) := by decide +kernel
theorem dX8_price_20 : decode cX8_price 20 = .ok (.sipush 1000, 3) := by decide +kernel
theorem dX8_price_23 : decode cX8_price 23 = .ok (.invokestatic 109, 3) := by decide +kernel
theorem dX8_price_26 : decode cX8_price 26 = .ok (.ifCond .ne 6, 3) := by decide +kernel
theorem dX8_price_29 : decode cX8_price 29 = .ok (.bipush (-2), 2) := by decide +kernel
theorem dX8_price_31 : decode cX8_price 31 = .ok (.ireturn, 1) := by decide +kernel
theorem dX8_price_32 : decode cX8_price 32 = .ok (.iload_n 1, 1) := by decide +kernel
theorem dX8_price_33 : decode cX8_price 33 = .ok (.bipush 12, 2) := by decide +kernel
theorem dX8_price_35 : decode cX8_price 35 = .ok (.imul, 1) := by decide +kernel
theorem dX8_price_36 : decode cX8_price 36 = .ok (.iload_n 2, 1) := by decide +kernel
theorem dX8_price_37 : decode cX8_price 37 = .ok (.iadd, 1) := by decide +kernel
theorem dX8_price_38 : decode cX8_price 38 = .ok (.istore 4, 2) := by decide +kernel
theorem dX8_price_40 : decode cX8_price 40 = .ok (.aload_n 0, 1) := by decide +kernel
theorem dX8_price_41 : decode cX8_price 41 = .ok (.getfield 30, 3) := by decide +kernel
theorem dX8_price_44 : decode cX8_price 44 = .ok (.getfield 217, 3) := by decide +kernel
theorem dX8_price_47 : decode cX8_price 47 = .ok (.iload 4, 2) := by decide +kernel
theorem dX8_price_49 : decode cX8_price 49 = .ok (.iaload, 1) := by decide +kernel
theorem dX8_price_50 : decode cX8_price 50 = .ok (.istore 5, 2) := by decide +kernel
theorem dX8_price_52 : decode cX8_price 52 = .ok (.aload_n 0, 1) := by decide +kernel
theorem dX8_price_53 : decode cX8_price 53 = .ok (.getfield 30, 3) := by decide +kernel
theorem dX8_price_56 : decode cX8_price 56 = .ok (.getfield 217, 3) := by decide +kernel
theorem dX8_price_59 : decode cX8_price 59 = .ok (.iload 4, 2) := by decide +kernel
theorem dX8_price_61 : decode cX8_price 61 = .ok (.iload_n 3, 1) := by decide +kernel
theorem dX8_price_62 : decode cX8_price 62 = .ok (.iastore, 1) := by decide +kernel
theorem dX8_price_63 : decode cX8_price 63 = .ok (.iload 5, 2) := by decide +kernel
theorem dX8_price_65 : decode cX8_price 65 = .ok (.ireturn, 1) := by decide +kernel
theorem dX8_volume_0 : decode cX8_volume 0 = .ok (.iload_n 1, 1) := by decide +kernel
theorem dX8_volume_1 : decode cX8_volume 1 = .ok (.iconst 4, 1) := by decide +kernel
theorem dX8_volume_2 : decode cX8_volume 2 = .ok (.invokestatic 66, 3) := by decide +kernel
theorem dX8_volume_5 : decode cX8_volume 5 = .ok (.ifCond .eq 21, 3) := by decide +kernel
theorem dX8_volume_8 : decode cX8_volume 8 = .ok (.iload_n 2, 1) := by decide +kernel
theorem dX8_volume_9 : decode cX8_volume 9 = .ok (.bipush 6, 2) := by decide +kernel
theorem dX8_volume_11 : decode cX8_volume 11 = .ok (.invokestatic 66, 3) := by decide +kernel
theorem dX8_volume_14 : decode cX8_volume 14 = .ok (.ifCond .eq 12, 3) := by decide +kernel
theorem dX8_volume_17 : decode cX8_volume 17 = .ok (.iload_n 3, 1) := by decide +kernel
theorem dX8_volume_18 : decode cX8_volume 18 = .ok (.bipush 12, 2) := by decide +kernel
theorem dX8_volume_20 : decode cX8_volume 20 = .ok (.invokestatic 66, 3) := by decide +kernel
theorem dX8_volume_23 : decode cX8_volume 23 = .ok (.ifCond .ne 9, 3) := by decide +kernel
theorem dX8_volume_26 : decode cX8_volume 26 = .ok (.bipush (-2), 2) := by decide +kernel
theorem dX8_volume_28 : decode cX8_volume 28 = .ok (.invokestatic 148, 3) := by decide +kernel
theorem dX8_volume_31 : decode cX8_volume 31 = .ok (.lreturn, 1) := by decide +kernel
theorem dX8_volume_32 : decode cX8_volume 32 = .ok (.aload_n 0, 1) := by decide +kernel
theorem dX8_volume_33 : decode cX8_volume 33 = .ok (.getfield 21, 3) := by decide +kernel
theorem dX8_volume_36 : decode cX8_volume 36 = .ok (.invokevirtual 200, 3) := by decide +kernel
theorem dX8_volume_39 : decode cX8_volume 39 = .ok (.aload_n 0, 1) := by decide +kernel
theorem dX8_volume_40 : decode cX8_volume 40 = .ok (.getfield 30, 3) := by decide +kernel
theorem dX8_volume_43 : decode cX8_volume 43 = .ok (.iload_n 1, 1) := by decide +kernel
theorem dX8_volume_44 : decode cX8_volume 44 = .ok (.iload_n 2, 1) := by decide +kernel
theorem dX8_volume_45 : decode cX8_volume 45 = .ok (.iload_n 3, 1) := by decide +kernel
theorem dX8_volume_46 : decode cX8_volume 46 = .ok (.invokevirtual 220, 3) := by decide +kernel
theorem dX8_volume_49 : decode cX8_volume 49 = .ok (.lreturn, 1) := by decide +kernel
theorem dX8_atPrices_0 : decode cX8_atPrices 0 = .ok (.iload_n 1, 1) := by decide +kernel
theorem dX8_atPrices_1 : decode cX8_atPrices 1 = .ok (.iload_n 2, 1) := by decide +kernel
theorem dX8_atPrices_2 : decode cX8_atPrices 2 = .ok (.invokestatic 223, 3) := by decide +kernel
theorem dX8_atPrices_5 : decode cX8_atPrices 5 = .ok (.ifCond .eq 21, 3) := by decide +kernel
theorem dX8_atPrices_8 : decode cX8_atPrices 8 = .ok (.iload_n 3, 1) := by decide +kernel
theorem dX8_atPrices_9 : decode cX8_atPrices 9 = .ok (.bipush 12, 2) := by decide +kernel
theorem dX8_atPrices_11 : decode cX8_atPrices 11 = .ok (.invokestatic 66, 3) := by decide +kernel
theorem dX8_atPrices_14 : decode cX8_atPrices 14 = .ok (.ifCond .eq 12, 3) := by decide +kernel
theorem dX8_atPrices_17 : decode cX8_atPrices 17 = .ok (.iload 4, 2) := by decide +kernel
theorem dX8_atPrices_19 : decode cX8_atPrices 19 = .ok (.iconst 3, 1) := by decide +kernel
theorem dX8_atPrices_20 : decode cX8_atPrices 20 = .ok (.invokestatic 66, 3) := by decide +kernel
theorem dX8_atPrices_23 : decode cX8_atPrices 23 = .ok (.ifCond .ne 9, 3) := by decide +kernel
theorem dX8_atPrices_26 : decode cX8_atPrices 26 = .ok (.bipush (-2), 2) := by decide +kernel
theorem dX8_atPrices_28 : decode cX8_atPrices 28 = .ok (.invokestatic 148, 3) := by decide +kernel
theorem dX8_atPrices_31 : decode cX8_atPrices 31 = .ok (.lreturn, 1) := by decide +kernel
theorem dX8_atPrices_32 : decode cX8_atPrices 32 = .ok (.aload_n 0, 1) := by decide +kernel
theorem dX8_atPrices_33 : decode cX8_atPrices 33 = .ok (.getfield 21, 3) := by decide +kernel
theorem dX8_atPrices_36 : decode cX8_atPrices 36 = .ok (.invokevirtual 200, 3) := by decide +kernel
theorem dX8_atPrices_39 : decode cX8_atPrices 39 = .ok (.aload_n 0, 1) := by decide +kernel
theorem dX8_atPrices_40 : decode cX8_atPrices 40 = .ok (.getfield 30, 3) := by decide +kernel
theorem dX8_atPrices_43 : decode cX8_atPrices 43 = .ok (.iload_n 1, 1) := by decide +kernel
theorem dX8_atPrices_44 : decode cX8_atPrices 44 = .ok (.iload_n 2, 1) := by decide +kernel
theorem dX8_atPrices_45 : decode cX8_atPrices 45 = .ok (.iload_n 3, 1) := by decide +kernel
theorem dX8_atPrices_46 : decode cX8_atPrices 46 = .ok (.iload 4, 2) := by decide +kernel
theorem dX8_atPrices_48 : decode cX8_atPrices 48 = .ok (.invokevirtual 226, 3) := by decide +kernel
theorem dX8_atPrices_51 : decode cX8_atPrices 51 = .ok (.lreturn, 1) := by decide +kernel
theorem dX8_growth_0 : decode cX8_growth 0 = .ok (.iload_n 1, 1) := by decide +kernel
theorem dX8_growth_1 : decode cX8_growth 1 = .ok (.iload_n 2, 1) := by decide +kernel
theorem dX8_growth_2 : decode cX8_growth 2 = .ok (.invokestatic 223, 3) := by decide +kernel
theorem dX8_growth_5 : decode cX8_growth 5 = .ok (.ifCond .eq 13, 3) := by decide +kernel
theorem dX8_growth_8 : decode cX8_growth 8 = .ok (.iload_n 3, 1) := by decide +kernel
theorem dX8_growth_9 : decode cX8_growth 9 = .ok (.iconst 1, 1) := by decide +kernel
theorem dX8_growth_10 : decode cX8_growth 10 = .ok (.bipush 11, 2) := by decide +kernel
theorem dX8_growth_12 : decode cX8_growth 12 = .ok (.invokestatic 109, 3) := by decide +kernel
theorem dX8_growth_15 : decode cX8_growth 15 = .ok (.ifCond .ne 9, 3) := by decide +kernel
theorem dX8_growth_18 : decode cX8_growth 18 = .ok (.bipush (-2), 2) := by decide +kernel
theorem dX8_growth_20 : decode cX8_growth 20 = .ok (.invokestatic 148, 3) := by decide +kernel
theorem dX8_growth_23 : decode cX8_growth 23 = .ok (.lreturn, 1) := by decide +kernel
theorem dX8_growth_24 : decode cX8_growth 24 = .ok (.aload_n 0, 1) := by decide +kernel
theorem dX8_growth_25 : decode cX8_growth 25 = .ok (.getfield 21, 3) := by decide +kernel
theorem dX8_growth_28 : decode cX8_growth 28 = .ok (.invokevirtual 200, 3) := by decide +kernel
theorem dX8_growth_31 : decode cX8_growth 31 = .ok (.aload_n 0, 1) := by decide +kernel
theorem dX8_growth_32 : decode cX8_growth 32 = .ok (.getfield 30, 3) := by decide +kernel
theorem dX8_growth_35 : decode cX8_growth 35 = .ok (.iload_n 1, 1) := by decide +kernel
theorem dX8_growth_36 : decode cX8_growth 36 = .ok (.iload_n 2, 1) := by decide +kernel
theorem dX8_growth_37 : decode cX8_growth 37 = .ok (.iload_n 3, 1) := by decide +kernel
theorem dX8_growth_38 : decode cX8_growth 38 = .ok (.invokevirtual 229, 3) := by decide +kernel
theorem dX8_growth_41 : decode cX8_growth 41 = .ok (.lreturn, 1) := by decide +kernel
theorem dX8_chain_0 : decode cX8_chain 0 = .ok (.iload_n 1, 1) := by decide +kernel
theorem dX8_chain_1 : decode cX8_chain 1 = .ok (.iload_n 2, 1) := by decide +kernel
theorem dX8_chain_2 : decode cX8_chain 2 = .ok (.invokestatic 223, 3) := by decide +kernel
theorem dX8_chain_5 : decode cX8_chain 5 = .ok (.ifCond .eq 12, 3) := by decide +kernel
theorem dX8_chain_8 : decode cX8_chain 8 = .ok (.iload_n 3, 1) := by decide +kernel
theorem dX8_chain_9 : decode cX8_chain 9 = .ok (.bipush 12, 2) := by decide +kernel
theorem dX8_chain_11 : decode cX8_chain 11 = .ok (.invokestatic 66, 3) := by decide +kernel
theorem dX8_chain_14 : decode cX8_chain 14 = .ok (.ifCond .ne 9, 3) := by decide +kernel
theorem dX8_chain_17 : decode cX8_chain 17 = .ok (.bipush (-2), 2) := by decide +kernel
theorem dX8_chain_19 : decode cX8_chain 19 = .ok (.invokestatic 148, 3) := by decide +kernel
theorem dX8_chain_22 : decode cX8_chain 22 = .ok (.lreturn, 1) := by decide +kernel
theorem dX8_chain_23 : decode cX8_chain 23 = .ok (.aload_n 0, 1) := by decide +kernel
theorem dX8_chain_24 : decode cX8_chain 24 = .ok (.getfield 21, 3) := by decide +kernel
theorem dX8_chain_27 : decode cX8_chain 27 = .ok (.invokevirtual 200, 3) := by decide +kernel
theorem dX8_chain_30 : decode cX8_chain 30 = .ok (.aload_n 0, 1) := by decide +kernel
theorem dX8_chain_31 : decode cX8_chain 31 = .ok (.getfield 30, 3) := by decide +kernel
theorem dX8_chain_34 : decode cX8_chain 34 = .ok (.iload_n 1, 1) := by decide +kernel
theorem dX8_chain_35 : decode cX8_chain 35 = .ok (.iload_n 2, 1) := by decide +kernel
theorem dX8_chain_36 : decode cX8_chain 36 = .ok (.iload_n 3, 1) := by decide +kernel
theorem dX8_chain_37 : decode cX8_chain 37 = .ok (.invokevirtual 232, 3) := by decide +kernel
theorem dX8_chain_40 : decode cX8_chain 40 = .ok (.lreturn, 1) := by decide +kernel
theorem dX8_part_0 : decode cX8_part 0 = .ok (.iload_n 1, 1) := by decide +kernel
theorem dX8_part_1 : decode cX8_part 1 = .ok (.iconst 4, 1) := by decide +kernel
theorem dX8_part_2 : decode cX8_part 2 = .ok (.invokestatic 66, 3) := by decide +kernel
theorem dX8_part_5 : decode cX8_part 5 = .ok (.ifCond .eq 22, 3) := by decide +kernel
theorem dX8_part_8 : decode cX8_part 8 = .ok (.iload_n 2, 1) := by decide +kernel
theorem dX8_part_9 : decode cX8_part 9 = .ok (.bipush 6, 2) := by decide +kernel
theorem dX8_part_11 : decode cX8_part 11 = .ok (.invokestatic 66, 3) := by decide +kernel
theorem dX8_part_14 : decode cX8_part 14 = .ok (.ifCond .eq 13, 3) := by decide +kernel
theorem dX8_part_17 : decode cX8_part 17 = .ok (.iload_n 3, 1) := by decide +kernel
theorem dX8_part_18 : decode cX8_part 18 = .ok (.iconst 1, 1) := by decide +kernel
theorem dX8_part_19 : decode cX8_part 19 = .ok (.bipush 11, 2) := by decide +kernel
theorem dX8_part_21 : decode cX8_part 21 = .ok (.invokestatic 109, 3) := by decide +kernel
theorem dX8_part_24 : decode cX8_part 24 = .ok (.ifCond .ne 9, 3) := by decide +kernel
theorem dX8_part_27 : decode cX8_part 27 = .ok (.bipush (-2), 2) := by decide +kernel
theorem dX8_part_29 : decode cX8_part 29 = .ok (.invokestatic 148, 3) := by decide +kernel
theorem dX8_part_32 : decode cX8_part 32 = .ok (.lreturn, 1) := by decide +kernel
theorem dX8_part_33 : decode cX8_part 33 = .ok (.aload_n 0, 1) := by decide +kernel
theorem dX8_part_34 : decode cX8_part 34 = .ok (.getfield 21, 3) := by decide +kernel
theorem dX8_part_37 : decode cX8_part 37 = .ok (.invokevirtual 200, 3) := by decide +kernel
theorem dX8_part_40 : decode cX8_part 40 = .ok (.aload_n 0, 1) := by decide +kernel
theorem dX8_part_41 : decode cX8_part 41 = .ok (.getfield 30, 3) := by decide +kernel
theorem dX8_part_44 : decode cX8_part 44 = .ok (.iload_n 2, 1) := by decide +kernel
theorem dX8_part_45 : decode cX8_part 45 = .ok (.iload_n 3, 1) := by decide +kernel
theorem dX8_part_46 : decode cX8_part 46 = .ok (.invokevirtual 235, 3) := by decide +kernel
theorem dX8_part_49 : decode cX8_part 49 = .ok (.ifCond .eq 16, 3) := by decide +kernel
theorem dX8_part_52 : decode cX8_part 52 = .ok (.aload_n 0, 1) := by decide +kernel
theorem dX8_part_53 : decode cX8_part 53 = .ok (.getfield 30, 3) := by decide +kernel
theorem dX8_part_56 : decode cX8_part 56 = .ok (.iload_n 1, 1) := by decide +kernel
theorem dX8_part_57 : decode cX8_part 57 = .ok (.iload_n 2, 1) := by decide +kernel
theorem dX8_part_58 : decode cX8_part 58 = .ok (.iload_n 3, 1) := by decide +kernel
theorem dX8_part_59 : decode cX8_part 59 = .ok (.invokevirtual 238, 3) := by decide +kernel
theorem dX8_part_62 : decode cX8_part 62 = .ok (.goto 8, 3) := by decide +kernel
theorem dX8_part_65 : decode cX8_part 65 = .ok (.bipush (-3), 2) := by decide +kernel
theorem dX8_part_67 : decode cX8_part 67 = .ok (.invokestatic 148, 3) := by decide +kernel
theorem dX8_part_70 : decode cX8_part 70 = .ok (.lreturn, 1) := by decide +kernel
theorem dX8_apart_0 : decode cX8_apart 0 = .ok (.iload_n 1, 1) := by decide +kernel
theorem dX8_apart_1 : decode cX8_apart 1 = .ok (.bipush 6, 2) := by decide +kernel
theorem dX8_apart_3 : decode cX8_apart 3 = .ok (.invokestatic 66, 3) := by decide +kernel
theorem dX8_apart_6 : decode cX8_apart 6 = .ok (.ifCond .eq 12, 3) := by decide +kernel
theorem dX8_apart_9 : decode cX8_apart 9 = .ok (.iload_n 2, 1) := by decide +kernel
theorem dX8_apart_10 : decode cX8_apart 10 = .ok (.bipush 12, 2) := by decide +kernel
theorem dX8_apart_12 : decode cX8_apart 12 = .ok (.invokestatic 66, 3) := by decide +kernel
theorem dX8_apart_15 : decode cX8_apart 15 = .ok (.ifCond .ne 9, 3) := by decide +kernel
theorem dX8_apart_18 : decode cX8_apart 18 = .ok (.bipush (-2), 2) := by decide +kernel
theorem dX8_apart_20 : decode cX8_apart 20 = .ok (.invokestatic 148, 3) := by decide +kernel
theorem dX8_apart_23 : decode cX8_apart 23 = .ok (.lreturn, 1) := by decide +kernel
theorem dX8_apart_24 : decode cX8_apart 24 = .ok (.aload_n 0, 1) := by decide +kernel
theorem dX8_apart_25 : decode cX8_apart 25 = .ok (.getfield 21, 3) := by decide +kernel
theorem dX8_apart_28 : decode cX8_apart 28 = .ok (.invokevirtual 200, 3) := by decide +kernel
theorem dX8_apart_31 : decode cX8_apart 31 = .ok (.aload_n 0, 1) := by decide +kernel
theorem dX8_apart_32 : decode cX8_apart 32 = .ok (.getfield 30, 3) := by decide +kernel
theorem dX8_apart_35 : decode cX8_apart 35 = .ok (.iload_n 1, 1) := by decide +kernel
theorem dX8_apart_36 : decode cX8_apart 36 = .ok (.iload_n 2, 1) := by decide +kernel
theorem dX8_apart_37 : decode cX8_apart 37 = .ok (.invokevirtual 241, 3) := by decide +kernel
theorem dX8_apart_40 : decode cX8_apart 40 = .ok (.lreturn, 1) := by decide +kernel
theorem dX8_trade_0 : decode cX8_trade 0 = .ok (.iload_n 1, 1) := by decide +kernel
theorem dX8_trade_1 : decode cX8_trade 1 = .ok (.iload_n 2, 1) := by decide +kernel
theorem dX8_trade_2 : decode cX8_trade 2 = .ok (.iload_n 3, 1) := by decide +kernel
theorem dX8_trade_3 : decode cX8_trade 3 = .ok (.invokestatic 184, 3) := by decide +kernel
theorem dX8_trade_6 : decode cX8_trade 6 = .ok (.ifCond .eq 24, 3) := by decide +kernel
theorem dX8_trade_9 : decode cX8_trade 9 = .ok (.iload 4, 2) := by decide +kernel
theorem dX8_trade_11 : decode cX8_trade 11 = .ok (.iconst 0, 1) := by decide +kernel
theorem dX8_trade_12 : decode cX8_trade 12 = .ok (.iconst 1, 1) := by decide +kernel
theorem dX8_trade_13 : decode cX8_trade 13 = .ok (.invokestatic 109, 3) := by decide +kernel
theorem dX8_trade_16 : decode cX8_trade 16 = .ok (.ifCond .eq 14, 3) := by decide +kernel
theorem dX8_trade_19 : decode cX8_trade 19 = .ok (.iload 5, 2) := by decide +kernel
theorem dX8_trade_21 : decode cX8_trade 21 = .ok (.iconst (-1), 1) := by decide +kernel
theorem dX8_trade_22 : decode cX8_trade 22 = .ok (.ldc 108, 2) := by decide +kernel
theorem dX8_trade_24 : decode cX8_trade 24 = .ok (.invokestatic 109, 3) := by decide +kernel
theorem dX8_trade_27 : decode cX8_trade 27 = .ok (.ifCond .ne 6, 3) := by decide +kernel
theorem dX8_trade_30 : decode cX8_trade 30 = .ok (.bipush (-2), 2) := by decide +kernel
theorem dX8_trade_32 : decode cX8_trade 32 = .ok (.ireturn, 1) := by decide +kernel
theorem dX8_trade_33 : decode cX8_trade 33 = .ok (.aload_n 0, 1) := by decide +kernel
theorem dX8_trade_34 : decode cX8_trade 34 = .ok (.getfield 37, 3) := by decide +kernel
theorem dX8_trade_37 : decode cX8_trade 37 = .ok (.iload_n 1, 1) := by decide +kernel
theorem dX8_trade_38 : decode cX8_trade 38 = .ok (.iload_n 2, 1) := by decide +kernel
theorem dX8_trade_39 : decode cX8_trade 39 = .ok (.iload_n 3, 1) := by decide +kernel
theorem dX8_trade_40 : decode cX8_trade 40 = .ok (.iload 4, 2) := by decide +kernel
theorem dX8_trade_42 : decode cX8_trade 42 = .ok (.invokevirtual 245, 3) := by decide +kernel
theorem dX8_trade_45 : decode cX8_trade 45 = .ok (.istore 6, 2) := by decide +kernel
theorem dX8_trade_47 : decode cX8_trade 47 = .ok (.aload_n 0, 1) := by decide +kernel
theorem dX8_trade_48 : decode cX8_trade 48 = .ok (.getfield 37, 3) := by decide +kernel
theorem dX8_trade_51 : decode cX8_trade 51 = .ok (.getfield 248, 3) := by decide +kernel
theorem dX8_trade_54 : decode cX8_trade 54 = .ok (.iload 6, 2) := by decide +kernel
theorem dX8_trade_56 : decode cX8_trade 56 = .ok (.iaload, 1) := by decide +kernel
theorem dX8_trade_57 : decode cX8_trade 57 = .ok (.istore 7, 2) := by decide +kernel
theorem dX8_trade_59 : decode cX8_trade 59 = .ok (.aload_n 0, 1) := by decide +kernel
theorem dX8_trade_60 : decode cX8_trade 60 = .ok (.getfield 37, 3) := by decide +kernel
theorem dX8_trade_63 : decode cX8_trade 63 = .ok (.getfield 248, 3) := by decide +kernel
theorem dX8_trade_66 : decode cX8_trade 66 = .ok (.iload 6, 2) := by decide +kernel
theorem dX8_trade_68 : decode cX8_trade 68 = .ok (.iload 5, 2) := by decide +kernel
theorem dX8_trade_70 : decode cX8_trade 70 = .ok (.iastore, 1) := by decide +kernel
theorem dX8_trade_71 : decode cX8_trade 71 = .ok (.iload 7, 2) := by decide +kernel
theorem dX8_trade_73 : decode cX8_trade 73 = .ok (.ireturn, 1) := by decide +kernel
theorem dX8_precise_0 : decode cX8_precise 0 = .ok (.iload_n 1, 1) := by decide +kernel
theorem dX8_precise_1 : decode cX8_precise 1 = .ok (.iconst 2, 1) := by decide +kernel
theorem dX8_precise_2 : decode cX8_precise 2 = .ok (.invokestatic 66, 3) := by decide +kernel
theorem dX8_precise_5 : decode cX8_precise 5 = .ok (.ifCond .eq 10, 3) := by decide +kernel
theorem dX8_precise_8 : decode cX8_precise 8 = .ok (.iload_n 2, 1) := by decide +kernel
theorem dX8_precise_9 : decode cX8_precise 9 = .ok (.invokestatic 70, 3) := by decide +kernel
theorem dX8_precise_12 : decode cX8_precise 12 = .ok (.ifCond .ne 6, 3) := by decide +kernel
theorem dX8_precise_15 : decode cX8_precise 15 = .ok (.bipush (-2), 2) := by decide +kernel
theorem dX8_precise_17 : decode cX8_precise 17 = .ok (.ireturn, 1) := by decide +kernel
theorem dX8_precise_18 : decode cX8_precise 18 = .ok (.aload_n 0, 1) := by decide +kernel
theorem dX8_precise_19 : decode cX8_precise 19 = .ok (.getfield 37, 3) := by decide +kernel
theorem dX8_precise_22 : decode cX8_precise 22 = .ok (.getfield 251, 3) := by decide +kernel
theorem dX8_precise_25 : decode cX8_precise 25 = .ok (.iload_n 1, 1) := by decide +kernel
theorem dX8_precise_26 : decode cX8_precise 26 = .ok (.iaload, 1) := by decide +kernel
theorem dX8_precise_27 : decode cX8_precise 27 = .ok (.istore_n 3, 1) := by decide +kernel
theorem dX8_precise_28 : decode cX8_precise 28 = .ok (.aload_n 0, 1) := by decide +kernel
theorem dX8_precise_29 : decode cX8_precise 29 = .ok (.getfield 37, 3) := by decide +kernel
theorem dX8_precise_32 : decode cX8_precise 32 = .ok (.getfield 251, 3) := by decide +kernel
theorem dX8_precise_35 : decode cX8_precise 35 = .ok (.iload_n 1, 1) := by decide +kernel
theorem dX8_precise_36 : decode cX8_precise 36 = .ok (.iload_n 2, 1) := by decide +kernel
theorem dX8_precise_37 : decode cX8_precise 37 = .ok (.iastore, 1) := by decide +kernel
theorem dX8_precise_38 : decode cX8_precise 38 = .ok (.iload_n 3, 1) := by decide +kernel
theorem dX8_precise_39 : decode cX8_precise 39 = .ok (.ireturn, 1) := by decide +kernel
theorem dX8_hidden_0 : decode cX8_hidden 0 = .ok (.iload_n 1, 1) := by decide +kernel
theorem dX8_hidden_1 : decode cX8_hidden 1 = .ok (.iload_n 2, 1) := by decide +kernel
theorem dX8_hidden_2 : decode cX8_hidden 2 = .ok (.iload_n 3, 1) := by decide +kernel
theorem dX8_hidden_3 : decode cX8_hidden 3 = .ok (.invokestatic 184, 3) := by decide +kernel
theorem dX8_hidden_6 : decode cX8_hidden 6 = .ok (.ifCond .ne 6, 3) := by decide +kernel
theorem dX8_hidden_9 : decode cX8_hidden 9 = .ok (.ldc 254, 2) := by decide +kernel
theorem dX8_hidden_11 : decode cX8_hidden 11 = .ok (.ireturn, 1) := by decide +kernel
theorem dX8_hidden_12 : decode cX8_hidden 12 = .ok (.aload_n 0, 1) := by decide +kernel
theorem dX8_hidden_13 : decode cX8_hidden 13 = .ok (.getfield 37, 3) := by decide +kernel
theorem dX8_hidden_16 : decode cX8_hidden 16 = .ok (.iload_n 1, 1) := by decide +kernel
theorem dX8_hidden_17 : decode cX8_hidden 17 = .ok (.iload_n 2, 1) := by decide +kernel
theorem dX8_hidden_18 : decode cX8_hidden 18 = .ok (.iload_n 3, 1) := by decide +kernel
theorem dX8_hidden_19 : decode cX8_hidden 19 = .ok (.invokevirtual 255, 3) := by decide +kernel
theorem dX8_hidden_22 : decode cX8_hidden 22 = .ok (.ireturn, 1) := by decide +kernel
theorem dX8_agreed_0 : decode cX8_agreed 0 = .ok (.iload_n 1, 1) := by decide +kernel
theorem dX8_agreed_1 : decode cX8_agreed 1 = .ok (.iload_n 2, 1) := by decide +kernel
theorem dX8_agreed_2 : decode cX8_agreed 2 = .ok (.iload_n 3, 1) := by decide +kernel
theorem dX8_agreed_3 : decode cX8_agreed 3 = .ok (.invokestatic 184, 3) := by decide +kernel
theorem dX8_agreed_6 : decode cX8_agreed 6 = .ok (.ifCond .ne 6, 3) := by decide +kernel
theorem dX8_agreed_9 : decode cX8_agreed 9 = .ok (.bipush (-2), 2) := by decide +kernel
theorem dX8_agreed_11 : decode cX8_agreed 11 = .ok (.ireturn, 1) := by decide +kernel
theorem dX8_agreed_12 : decode cX8_agreed 12 = .ok (.aload_n 0, 1) := by decide +kernel
theorem dX8_agreed_13 : decode cX8_agreed 13 = .ok (.getfield 37, 3) := by decide +kernel
theorem dX8_agreed_16 : decode cX8_agreed 16 = .ok (.iload_n 1, 1) := by decide +kernel
theorem dX8_agreed_17 : decode cX8_agreed 17 = .ok (.iload_n 2, 1) := by decide +kernel
theorem dX8_agreed_18 : decode cX8_agreed 18 = .ok (.iload_n 3, 1) := by decide +kernel
theorem dX8_agreed_19 : decode cX8_agreed 19 = .ok (.invokevirtual 258, 3) := by decide +kernel
theorem dX8_agreed_22 : decode cX8_agreed 22 = .ok (.ireturn, 1) := by decide +kernel
theorem dX8_flow_0 : decode cX8_flow 0 = .ok (.iload_n 1, 1) := by decide +kernel
theorem dX8_flow_1 : decode cX8_flow 1 = .ok (.bipush 6, 2) := by decide +kernel
theorem dX8_flow_3 : decode cX8_flow 3 = .ok (.invokestatic 66, 3) := by decide +kernel
theorem dX8_flow_6 : decode cX8_flow 6 = .ok (.ifCond .eq 39, 3) := by decide +kernel
theorem dX8_flow_9 : decode cX8_flow 9 = .ok (.iload_n 2, 1) := by decide +kernel
theorem dX8_flow_10 : decode cX8_flow 10 = .ok (.bipush 6, 2) := by decide +kernel
theorem dX8_flow_12 : decode cX8_flow 12 = .ok (.invokestatic 66, 3) := by decide +kernel
theorem dX8_flow_15 : decode cX8_flow 15 = .ok (.ifCond .eq 30, 3) := by decide +kernel
theorem dX8_flow_18 : decode cX8_flow 18 = .ok (.iload_n 1, 1) := by decide +kernel
theorem dX8_flow_19 : decode cX8_flow 19 = .ok (.iload_n 2, 1) := by decide +kernel
theorem dX8_flow_20 : decode cX8_flow 20 = .ok (.if_icmp .eq 25, 3) := by decide +kernel
theorem dX8_flow_23 : decode cX8_flow 23 = .ok (.iload_n 3, 1) := by decide +kernel
theorem dX8_flow_24 : decode cX8_flow 24 = .ok (.bipush 12, 2) := by decide +kernel
theorem dX8_flow_26 : decode cX8_flow 26 = .ok (.invokestatic 66, 3) := by decide +kernel
theorem dX8_flow_29 : decode cX8_flow 29 = .ok (.ifCond .eq 16, 3) := by decide +kernel
theorem dX8_flow_32 : decode cX8_flow 32 = .ok (.iload 4, 2) := by decide +kernel
theorem dX8_flow_34 : decode cX8_flow 34 = .ok (.ldc_w 261, 3) := by decide +kernel
theorem dX8_flow_37 : decode cX8_flow 37 = .ok (.ldc 108, 2) := by decide +kernel
theorem dX8_flow_39 : decode cX8_flow 39 = .ok (.invokestatic 109, 3) := by decide +kernel
theorem dX8_flow_42 : decode cX8_flow 42 = .ok (.ifCond .ne 9, 3) := by decide +kernel
theorem dX8_flow_45 : decode cX8_flow 45 = .ok (.bipush (-2), 2) := by decide +kernel
theorem dX8_flow_47 : decode cX8_flow 47 = .ok (.invokestatic 148, 3) := by decide +kernel
theorem dX8_flow_50 : decode cX8_flow 50 = .ok (.lreturn, 1) := by decide +kernel
theorem dX8_flow_51 : decode cX8_flow 51 = .ok (.aload_n 0, 1) := by decide +kernel
theorem dX8_flow_52 : decode cX8_flow 52 = .ok (.getfield 44, 3) := by decide +kernel
theorem dX8_flow_55 : decode cX8_flow 55 = .ok (.iload_n 1, 1) := by decide +kernel
theorem dX8_flow_56 : decode cX8_flow 56 = .ok (.iload_n 2, 1) := by decide +kernel
theorem dX8_flow_57 : decode cX8_flow 57 = .ok (.iload_n 3, 1) := by decide +kernel
theorem dX8_flow_58 : decode cX8_flow 58 = .ok (.iload 4, 2) := by decide +kernel
theorem dX8_flow_60 : decode cX8_flow 60 = .ok (.invokevirtual 262, 3) := by decide +kernel
theorem dX8_flow_63 : decode cX8_flow 63 = .ok (.lreturn, 1) := by decide +kernel
theorem dX8_net_0 : decode cX8_net 0 = .ok (.iload_n 1, 1) := by decide +kernel
theorem dX8_net_1 : decode cX8_net 1 = .ok (.iload_n 2, 1) := by decide +kernel
theorem dX8_net_2 : decode cX8_net 2 = .ok (.invokestatic 265, 3) := by decide +kernel
theorem dX8_net_5 : decode cX8_net 5 = .ok (.ifCond .ne 9, 3) := by decide +kernel
theorem dX8_net_8 : decode cX8_net 8 = .ok (.bipush (-2), 2) := by decide +kernel
theorem dX8_net_10 : decode cX8_net 10 = .ok (.invokestatic 148, 3) := by decide +kernel
theorem dX8_net_13 : decode cX8_net 13 = .ok (.lreturn, 1) := by decide +kernel
theorem dX8_net_14 : decode cX8_net 14 = .ok (.aload_n 0, 1) := by decide +kernel
theorem dX8_net_15 : decode cX8_net 15 = .ok (.getfield 44, 3) := by decide +kernel
theorem dX8_net_18 : decode cX8_net 18 = .ok (.iload_n 1, 1) := by decide +kernel
theorem dX8_net_19 : decode cX8_net 19 = .ok (.iload_n 2, 1) := by decide +kernel
theorem dX8_net_20 : decode cX8_net 20 = .ok (.invokevirtual 268, 3) := by decide +kernel
theorem dX8_net_23 : decode cX8_net 23 = .ok (.lreturn, 1) := by decide +kernel
theorem dX8_stock_0 : decode cX8_stock 0 = .ok (.iload_n 1, 1) := by decide +kernel
theorem dX8_stock_1 : decode cX8_stock 1 = .ok (.iload_n 2, 1) := by decide +kernel
theorem dX8_stock_2 : decode cX8_stock 2 = .ok (.invokestatic 265, 3) := by decide +kernel
theorem dX8_stock_5 : decode cX8_stock 5 = .ok (.ifCond .eq 15, 3) := by decide +kernel
theorem dX8_stock_8 : decode cX8_stock 8 = .ok (.iload_n 3, 1) := by decide +kernel
theorem dX8_stock_9 : decode cX8_stock 9 = .ok (.ldc 125, 2) := by decide +kernel
theorem dX8_stock_11 : decode cX8_stock 11 = .ok (.ldc_w 271, 3) := by decide +kernel
theorem dX8_stock_14 : decode cX8_stock 14 = .ok (.invokestatic 109, 3) := by decide +kernel
theorem dX8_stock_17 : decode cX8_stock 17 = .ok (.ifCond .ne 6, 3) := by decide +kernel
theorem dX8_stock_20 : decode cX8_stock 20 = .ok (.bipush (-2), 2) := by decide +kernel
theorem dX8_stock_22 : decode cX8_stock 22 = .ok (.ireturn, 1) := by decide +kernel
theorem dX8_stock_23 : decode cX8_stock 23 = .ok (.iload_n 1, 1) := by decide +kernel
theorem dX8_stock_24 : decode cX8_stock 24 = .ok (.bipush 12, 2) := by decide +kernel
theorem dX8_stock_26 : decode cX8_stock 26 = .ok (.imul, 1) := by decide +kernel
theorem dX8_stock_27 : decode cX8_stock 27 = .ok (.iload_n 2, 1) := by decide +kernel
theorem dX8_stock_28 : decode cX8_stock 28 = .ok (.iadd, 1) := by decide +kernel
theorem dX8_stock_29 : decode cX8_stock 29 = .ok (.istore 4, 2) := by decide +kernel
theorem dX8_stock_31 : decode cX8_stock 31 = .ok (.aload_n 0, 1) := by decide +kernel
theorem dX8_stock_32 : decode cX8_stock 32 = .ok (.getfield 44, 3) := by decide +kernel
theorem dX8_stock_35 : decode cX8_stock 35 = .ok (.getfield 272, 3) := by decide +kernel
theorem dX8_stock_38 : decode cX8_stock 38 = .ok (.iload 4, 2) := by decide +kernel
theorem dX8_stock_40 : decode cX8_stock 40 = .ok (.iload_n 3, 1) := by decide +kernel
theorem dX8_stock_41 : decode cX8_stock 41 = .ok (.iastore, 1) := by decide +kernel
theorem dX8_stock_42 : decode cX8_stock 42 = .ok (.aload_n 0, 1) := by decide +kernel
theorem dX8_stock_43 : decode cX8_stock 43 = .ok (.getfield 44, 3) := by decide +kernel
theorem dX8_stock_46 : decode cX8_stock 46 = .ok (.getfield 275, 3) := by decide +kernel
theorem dX8_stock_49 : decode cX8_stock 49 = .ok (.iload 4, 2) := by decide +kernel
theorem dX8_stock_51 : decode cX8_stock 51 = .ok (.iconst 1, 1) := by decide +kernel
theorem dX8_stock_52 : decode cX8_stock 52 = .ok (.bastore, 1) := by decide +kernel
theorem dX8_stock_53 : decode cX8_stock 53 = .ok (.iconst 1, 1) := by decide +kernel
theorem dX8_stock_54 : decode cX8_stock 54 = .ok (.ireturn, 1) := by decide +kernel
theorem dX8_unstock_0 : decode cX8_unstock 0 = .ok (.iload_n 1, 1) := by decide +kernel
theorem dX8_unstock_1 : decode cX8_unstock 1 = .ok (.iload_n 2, 1) := by decide +kernel
theorem dX8_unstock_2 : decode cX8_unstock 2 = .ok (.invokestatic 265, 3) := by decide +kernel
theorem dX8_unstock_5 : decode cX8_unstock 5 = .ok (.ifCond .ne 6, 3) := by decide +kernel
theorem dX8_unstock_8 : decode cX8_unstock 8 = .ok (.bipush (-2), 2) := by decide +kernel
theorem dX8_unstock_10 : decode cX8_unstock 10 = .ok (.ireturn, 1) := by decide +kernel
theorem dX8_unstock_11 : decode cX8_unstock 11 = .ok (.iload_n 1, 1) := by decide +kernel
theorem dX8_unstock_12 : decode cX8_unstock 12 = .ok (.bipush 12, 2) := by decide +kernel
theorem dX8_unstock_14 : decode cX8_unstock 14 = .ok (.imul, 1) := by decide +kernel
theorem dX8_unstock_15 : decode cX8_unstock 15 = .ok (.iload_n 2, 1) := by decide +kernel
theorem dX8_unstock_16 : decode cX8_unstock 16 = .ok (.iadd, 1) := by decide +kernel
theorem dX8_unstock_17 : decode cX8_unstock 17 = .ok (.istore_n 3, 1) := by decide +kernel
theorem dX8_unstock_18 : decode cX8_unstock 18 = .ok (.aload_n 0, 1) := by decide +kernel
theorem dX8_unstock_19 : decode cX8_unstock 19 = .ok (.getfield 44, 3) := by decide +kernel
theorem dX8_unstock_22 : decode cX8_unstock 22 = .ok (.getfield 275, 3) := by decide +kernel
theorem dX8_unstock_25 : decode cX8_unstock 25 = .ok (.iload_n 3, 1) := by decide +kernel
theorem dX8_unstock_26 : decode cX8_unstock 26 = .ok (.baload, 1) := by decide +kernel
theorem dX8_unstock_27 : decode cX8_unstock 27 = .ok (.ifCond .eq 7, 3) := by decide +kernel
theorem dX8_unstock_30 : decode cX8_unstock 30 = .ok (.iconst 1, 1) := by decide +kernel
theorem dX8_unstock_31 : decode cX8_unstock 31 = .ok (.goto 4, 3) := by decide +kernel
theorem dX8_unstock_34 : decode cX8_unstock 34 = .ok (.iconst 0, 1) := by decide +kernel
theorem dX8_unstock_35 : decode cX8_unstock 35 = .ok (.istore 4, 2) := by decide +kernel
theorem dX8_unstock_37 : decode cX8_unstock 37 = .ok (.aload_n 0, 1) := by decide +kernel
theorem dX8_unstock_38 : decode cX8_unstock 38 = .ok (.getfield 44, 3) := by decide +kernel
theorem dX8_unstock_41 : decode cX8_unstock 41 = .ok (.getfield 275, 3) := by decide +kernel
theorem dX8_unstock_44 : decode cX8_unstock 44 = .ok (.iload_n 3, 1) := by decide +kernel
theorem dX8_unstock_45 : decode cX8_unstock 45 = .ok (.iconst 0, 1) := by decide +kernel
theorem dX8_unstock_46 : decode cX8_unstock 46 = .ok (.bastore, 1) := by decide +kernel
theorem dX8_unstock_47 : decode cX8_unstock 47 = .ok (.iload 4, 2) := by decide +kernel
theorem dX8_unstock_49 : decode cX8_unstock 49 = .ok (.ireturn, 1) := by decide +kernel
theorem dX8_due_0 : decode cX8_due 0 = .ok (.iload_n 1, 1) := by decide +kernel
theorem dX8_due_1 : decode cX8_due 1 = .ok (.iload_n 2, 1) := by decide +kernel
theorem dX8_due_2 : decode cX8_due 2 = .ok (.invokestatic 265, 3) := by decide +kernel
theorem dX8_due_5 : decode cX8_due 5 = .ok (.ifCond .ne 9, 3) := by decide +kernel
theorem dX8_due_8 : decode cX8_due 8 = .ok (.bipush (-2), 2) := by decide +kernel
theorem dX8_due_10 : decode cX8_due 10 = .ok (.invokestatic 148, 3) := by decide +kernel
theorem dX8_due_13 : decode cX8_due 13 = .ok (.lreturn, 1) := by decide +kernel
theorem dX8_due_14 : decode cX8_due 14 = .ok (.aload_n 0, 1) := by decide +kernel
theorem dX8_due_15 : decode cX8_due 15 = .ok (.getfield 44, 3) := by decide +kernel
theorem dX8_due_18 : decode cX8_due 18 = .ok (.iload_n 1, 1) := by decide +kernel
theorem dX8_due_19 : decode cX8_due 19 = .ok (.iload_n 2, 1) := by decide +kernel
theorem dX8_due_20 : decode cX8_due 20 = .ok (.invokevirtual 278, 3) := by decide +kernel
theorem dX8_due_23 : decode cX8_due 23 = .ok (.lreturn, 1) := by decide +kernel
theorem dX8_off_0 : decode cX8_off 0 = .ok (.iload_n 1, 1) := by decide +kernel
theorem dX8_off_1 : decode cX8_off 1 = .ok (.iload_n 2, 1) := by decide +kernel
theorem dX8_off_2 : decode cX8_off 2 = .ok (.invokestatic 265, 3) := by decide +kernel
theorem dX8_off_5 : decode cX8_off 5 = .ok (.ifCond .ne 9, 3) := by decide +kernel
theorem dX8_off_8 : decode cX8_off 8 = .ok (.bipush (-2), 2) := by decide +kernel
theorem dX8_off_10 : decode cX8_off 10 = .ok (.invokestatic 148, 3) := by decide +kernel
theorem dX8_off_13 : decode cX8_off 13 = .ok (.lreturn, 1) := by decide +kernel
theorem dX8_off_14 : decode cX8_off 14 = .ok (.iload_n 1, 1) := by decide +kernel
theorem dX8_off_15 : decode cX8_off 15 = .ok (.bipush 12, 2) := by decide +kernel
theorem dX8_off_17 : decode cX8_off 17 = .ok (.imul, 1) := by decide +kernel
theorem dX8_off_18 : decode cX8_off 18 = .ok (.iload_n 2, 1) := by decide +kernel
theorem dX8_off_19 : decode cX8_off 19 = .ok (.iadd, 1) := by decide +kernel
theorem dX8_off_20 : decode cX8_off 20 = .ok (.istore_n 3, 1) := by decide +kernel
theorem dX8_off_21 : decode cX8_off 21 = .ok (.aload_n 0, 1) := by decide +kernel
theorem dX8_off_22 : decode cX8_off 22 = .ok (.getfield 44, 3) := by decide +kernel
theorem dX8_off_25 : decode cX8_off 25 = .ok (.getfield 275, 3) := by decide +kernel
theorem dX8_off_28 : decode cX8_off 28 = .ok (.iload_n 3, 1) := by decide +kernel
theorem dX8_off_29 : decode cX8_off 29 = .ok (.baload, 1) := by decide +kernel
theorem dX8_off_30 : decode cX8_off 30 = .ok (.ifCond .ne 9, 3) := by decide +kernel
theorem dX8_off_33 : decode cX8_off 33 = .ok (.bipush (-3), 2) := by decide +kernel
theorem dX8_off_35 : decode cX8_off 35 = .ok (.invokestatic 148, 3) := by decide +kernel
theorem dX8_off_38 : decode cX8_off 38 = .ok (.lreturn, 1) := by decide +kernel
theorem dX8_off_39 : decode cX8_off 39 = .ok (.aload_n 0, 1) := by decide +kernel
theorem dX8_off_40 : decode cX8_off 40 = .ok (.getfield 44, 3) := by decide +kernel
theorem dX8_off_43 : decode cX8_off 43 = .ok (.getfield 272, 3) := by decide +kernel
theorem dX8_off_46 : decode cX8_off 46 = .ok (.iload_n 3, 1) := by decide +kernel
theorem dX8_off_47 : decode cX8_off 47 = .ok (.iaload, 1) := by decide +kernel
theorem dX8_off_48 : decode cX8_off 48 = .ok (.i2l, 1) := by decide +kernel
theorem dX8_off_49 : decode cX8_off 49 = .ok (.aload_n 0, 1) := by decide +kernel
theorem dX8_off_50 : decode cX8_off 50 = .ok (.getfield 44, 3) := by decide +kernel
theorem dX8_off_53 : decode cX8_off 53 = .ok (.iload_n 1, 1) := by decide +kernel
theorem dX8_off_54 : decode cX8_off 54 = .ok (.iload_n 2, 1) := by decide +kernel
theorem dX8_off_55 : decode cX8_off 55 = .ok (.invokevirtual 278, 3) := by decide +kernel
theorem dX8_off_58 : decode cX8_off 58 = .ok (.lsub, 1) := by decide +kernel
theorem dX8_off_59 : decode cX8_off 59 = .ok (.lreturn, 1) := by decide +kernel
theorem dX8_type_0 : decode cX8_type 0 = .ok (.iload_n 1, 1) := by decide +kernel
theorem dX8_type_1 : decode cX8_type 1 = .ok (.iconst 4, 1) := by decide +kernel
theorem dX8_type_2 : decode cX8_type 2 = .ok (.invokestatic 66, 3) := by decide +kernel
theorem dX8_type_5 : decode cX8_type 5 = .ok (.ifCond .eq 14, 3) := by decide +kernel
theorem dX8_type_8 : decode cX8_type 8 = .ok (.iload_n 2, 1) := by decide +kernel
theorem dX8_type_9 : decode cX8_type 9 = .ok (.iconst 0, 1) := by decide +kernel
theorem dX8_type_10 : decode cX8_type 10 = .ok (.sipush 255, 3) := by decide +kernel
theorem dX8_type_13 : decode cX8_type 13 = .ok (.invokestatic 109, 3) := by decide +kernel
theorem dX8_type_16 : decode cX8_type 16 = .ok (.ifCond .ne 6, 3) := by decide +kernel
theorem dX8_type_19 : decode cX8_type 19 = .ok (.bipush (-2), 2) := by decide +kernel
theorem dX8_type_21 : decode cX8_type 21 = .ok (.ireturn, 1) := by decide +kernel
theorem dX8_type_22 : decode cX8_type 22 = .ok (.aload_n 0, 1) := by decide +kernel
theorem dX8_type_23 : decode cX8_type 23 = .ok (.getfield 50, 3) := by decide +kernel
theorem dX8_type_26 : decode cX8_type 26 = .ok (.iload_n 1, 1) := by decide +kernel
theorem dX8_type_27 : decode cX8_type 27 = .ok (.aaload, 1) := by decide +kernel
theorem dX8_type_28 : decode cX8_type 28 = .ok (.getfield 281, 3) := by decide +kernel
theorem dX8_type_31 : decode cX8_type 31 = .ok (.bipush 60, 2) := by decide +kernel
theorem dX8_type_33 : decode cX8_type 33 = .ok (.if_icmp .lt 6, 3) := by decide +kernel
theorem dX8_type_36 : decode cX8_type 36 = .ok (.bipush (-4), 2) := by decide +kernel
theorem dX8_type_38 : decode cX8_type 38 = .ok (.ireturn, 1) := by decide +kernel
theorem dX8_type_39 : decode cX8_type 39 = .ok (.aload_n 0, 1) := by decide +kernel
theorem dX8_type_40 : decode cX8_type 40 = .ok (.getfield 50, 3) := by decide +kernel
theorem dX8_type_43 : decode cX8_type 43 = .ok (.iload_n 1, 1) := by decide +kernel
theorem dX8_type_44 : decode cX8_type 44 = .ok (.aaload, 1) := by decide +kernel
theorem dX8_type_45 : decode cX8_type 45 = .ok (.iload_n 2, 1) := by decide +kernel
theorem dX8_type_46 : decode cX8_type 46 = .ok (.invokevirtual 284, 3) := by decide +kernel
theorem dX8_type_49 : decode cX8_type 49 = .ok (.aload_n 0, 1) := by decide +kernel
theorem dX8_type_50 : decode cX8_type 50 = .ok (.getfield 50, 3) := by decide +kernel
theorem dX8_type_53 : decode cX8_type 53 = .ok (.iload_n 1, 1) := by decide +kernel
theorem dX8_type_54 : decode cX8_type 54 = .ok (.aaload, 1) := by decide +kernel
theorem dX8_type_55 : decode cX8_type 55 = .ok (.getfield 281, 3) := by decide +kernel
theorem dX8_type_58 : decode cX8_type 58 = .ok (.ireturn, 1) := by decide +kernel
theorem dX8_repeal_0 : decode cX8_repeal 0 = .ok (.iload_n 1, 1) := by decide +kernel
theorem dX8_repeal_1 : decode cX8_repeal 1 = .ok (.iconst 4, 1) := by decide +kernel
theorem dX8_repeal_2 : decode cX8_repeal 2 = .ok (.invokestatic 66, 3) := by decide +kernel
theorem dX8_repeal_5 : decode cX8_repeal 5 = .ok (.ifCond .ne 6, 3) := by decide +kernel
theorem dX8_repeal_8 : decode cX8_repeal 8 = .ok (.bipush (-2), 2) := by decide +kernel
theorem dX8_repeal_10 : decode cX8_repeal 10 = .ok (.ireturn, 1) := by decide +kernel
theorem dX8_repeal_11 : decode cX8_repeal 11 = .ok (.aload_n 0, 1) := by decide +kernel
theorem dX8_repeal_12 : decode cX8_repeal 12 = .ok (.getfield 50, 3) := by decide +kernel
theorem dX8_repeal_15 : decode cX8_repeal 15 = .ok (.iload_n 1, 1) := by decide +kernel
theorem dX8_repeal_16 : decode cX8_repeal 16 = .ok (.aaload, 1) := by decide +kernel
theorem dX8_repeal_17 : decode cX8_repeal 17 = .ok (.getfield 281, 3) := by decide +kernel
theorem dX8_repeal_20 : decode cX8_repeal 20 = .ok (.istore_n 2, 1) := by decide +kernel
theorem dX8_repeal_21 : decode cX8_repeal 21 = .ok (.aload_n 0, 1) := by decide +kernel
theorem dX8_repeal_22 : decode cX8_repeal 22 = .ok (.getfield 50, 3) := by decide +kernel
theorem dX8_repeal_25 : decode cX8_repeal 25 = .ok (.iload_n 1, 1) := by decide +kernel
theorem dX8_repeal_26 : decode cX8_repeal 26 = .ok (.aaload, 1) := by decide +kernel
theorem dX8_repeal_27 : decode cX8_repeal 27 = .ok (.iconst 0, 1) := by decide +kernel
theorem dX8_repeal_28 : decode cX8_repeal 28 = .ok (.putfield 281, 3) := by decide +kernel
theorem dX8_repeal_31 : decode cX8_repeal 31 = .ok (.iload_n 2, 1) := by decide +kernel
theorem dX8_repeal_32 : decode cX8_repeal 32 = .ok (.ireturn, 1) := by decide +kernel
theorem dX8_fault_0 : decode cX8_fault 0 = .ok (.iload_n 1, 1) := by decide +kernel
theorem dX8_fault_1 : decode cX8_fault 1 = .ok (.iconst 4, 1) := by decide +kernel
theorem dX8_fault_2 : decode cX8_fault 2 = .ok (.invokestatic 66, 3) := by decide +kernel
theorem dX8_fault_5 : decode cX8_fault 5 = .ok (.ifCond .ne 6, 3) := by decide +kernel
theorem dX8_fault_8 : decode cX8_fault 8 = .ok (.bipush (-2), 2) := by decide +kernel
theorem dX8_fault_10 : decode cX8_fault 10 = .ok (.ireturn, 1) := by decide +kernel
theorem dX8_fault_11 : decode cX8_fault 11 = .ok (.aload_n 0, 1) := by decide +kernel
theorem dX8_fault_12 : decode cX8_fault 12 = .ok (.getfield 50, 3) := by decide +kernel
theorem dX8_fault_15 : decode cX8_fault 15 = .ok (.iload_n 1, 1) := by decide +kernel
theorem dX8_fault_16 : decode cX8_fault 16 = .ok (.aaload, 1) := by decide +kernel
theorem dX8_fault_17 : decode cX8_fault 17 = .ok (.invokevirtual 287, 3) := by decide +kernel
theorem dX8_fault_20 : decode cX8_fault 20 = .ok (.ireturn, 1) := by decide +kernel
theorem dX8_left_0 : decode cX8_left 0 = .ok (.iload_n 1, 1) := by decide +kernel
theorem dX8_left_1 : decode cX8_left 1 = .ok (.iconst 4, 1) := by decide +kernel
theorem dX8_left_2 : decode cX8_left 2 = .ok (.invokestatic 66, 3) := by decide +kernel
theorem dX8_left_5 : decode cX8_left 5 = .ok (.ifCond .eq 12, 3) := by decide +kernel
theorem dX8_left_8 : decode cX8_left 8 = .ok (.iload_n 2, 1) := by decide +kernel
theorem dX8_left_9 : decode cX8_left 9 = .ok (.bipush 12, 2) := by decide +kernel
theorem dX8_left_11 : decode cX8_left 11 = .ok (.invokestatic 66, 3) := by decide +kernel
theorem dX8_left_14 : decode cX8_left 14 = .ok (.ifCond .ne 9, 3) := by decide +kernel
theorem dX8_left_17 : decode cX8_left 17 = .ok (.bipush (-2), 2) := by decide +kernel
theorem dX8_left_19 : decode cX8_left 19 = .ok (.invokestatic 148, 3) := by decide +kernel
theorem dX8_left_22 : decode cX8_left 22 = .ok (.lreturn, 1) := by decide +kernel
theorem dX8_left_23 : decode cX8_left 23 = .ok (.aload_n 0, 1) := by decide +kernel
theorem dX8_left_24 : decode cX8_left 24 = .ok (.getfield 50, 3) := by decide +kernel
theorem dX8_left_27 : decode cX8_left 27 = .ok (.iload_n 1, 1) := by decide +kernel
theorem dX8_left_28 : decode cX8_left 28 = .ok (.aaload, 1) := by decide +kernel
theorem dX8_left_29 : decode cX8_left 29 = .ok (.invokevirtual 287, 3) := by decide +kernel
theorem dX8_left_32 : decode cX8_left 32 = .ok (.iconst (-1), 1) := by decide +kernel
theorem dX8_left_33 : decode cX8_left 33 = .ok (.if_icmp .eq 9, 3) := by decide +kernel
theorem dX8_left_36 : decode cX8_left 36 = .ok (.bipush (-3), 2) := by decide +kernel
theorem dX8_left_38 : decode cX8_left 38 = .ok (.invokestatic 148, 3) := by decide +kernel
theorem dX8_left_41 : decode cX8_left 41 = .ok (.lreturn, 1) := by decide +kernel
theorem dX8_left_42 : decode cX8_left 42 = .ok (.aload_n 0, 1) := by decide +kernel
theorem dX8_left_43 : decode cX8_left 43 = .ok (.getfield 21, 3) := by decide +kernel
theorem dX8_left_46 : decode cX8_left 46 = .ok (.invokevirtual 200, 3) := by decide +kernel
theorem dX8_left_49 : decode cX8_left 49 = .ok (.aload_n 0, 1) := by decide +kernel
theorem dX8_left_50 : decode cX8_left 50 = .ok (.getfield 50, 3) := by decide +kernel
theorem dX8_left_53 : decode cX8_left 53 = .ok (.iload_n 1, 1) := by decide +kernel
theorem dX8_left_54 : decode cX8_left 54 = .ok (.aaload, 1) := by decide +kernel
theorem dX8_left_55 : decode cX8_left 55 = .ok (.aload_n 0, 1) := by decide +kernel
theorem dX8_left_56 : decode cX8_left 56 = .ok (.getfield 21, 3) := by decide +kernel
theorem dX8_left_59 : decode cX8_left 59 = .ok (.getfield 191, 3) := by decide +kernel
theorem dX8_left_62 : decode cX8_left 62 = .ok (.iload_n 2, 1) := by decide +kernel
theorem dX8_left_63 : decode cX8_left 63 = .ok (.invokevirtual 290, 3) := by decide +kernel
theorem dX8_left_66 : decode cX8_left 66 = .ok (.lreturn, 1) := by decide +kernel
theorem dX8_unkept_0 : decode cX8_unkept 0 = .ok (.iload_n 1, 1) := by decide +kernel
theorem dX8_unkept_1 : decode cX8_unkept 1 = .ok (.bipush 12, 2) := by decide +kernel
theorem dX8_unkept_3 : decode cX8_unkept 3 = .ok (.invokestatic 66, 3) := by decide +kernel
theorem dX8_unkept_6 : decode cX8_unkept 6 = .ok (.ifCond .ne 6, 3) := by decide +kernel
theorem dX8_unkept_9 : decode cX8_unkept 9 = .ok (.bipush (-2), 2) := by decide +kernel
theorem dX8_unkept_11 : decode cX8_unkept 11 = .ok (.ireturn, 1) := by decide +kernel
theorem dX8_unkept_12 : decode cX8_unkept 12 = .ok (.aload_n 0, 1) := by decide +kernel
theorem dX8_unkept_13 : decode cX8_unkept 13 = .ok (.getfield 21, 3) := by decide +kernel
theorem dX8_unkept_16 : decode cX8_unkept 16 = .ok (.invokevirtual 200, 3) := by decide +kernel
theorem dX8_unkept_19 : decode cX8_unkept 19 = .ok (.iconst 0, 1) := by decide +kernel
theorem dX8_unkept_20 : decode cX8_unkept 20 = .ok (.istore_n 2, 1) := by decide +kernel
theorem dX8_unkept_21 : decode cX8_unkept 21 = .ok (.iconst 0, 1) := by decide +kernel
theorem dX8_unkept_22 : decode cX8_unkept 22 = .ok (.istore_n 3, 1) := by decide +kernel
theorem dX8_unkept_23 : decode cX8_unkept 23 = .ok (.iload_n 3, 1) := by decide +kernel
theorem dX8_unkept_24 : decode cX8_unkept 24 = .ok (.iconst 4, 1) := by decide +kernel
theorem dX8_unkept_25 : decode cX8_unkept 25 = .ok (.if_icmp .ge 47, 3) := by decide +kernel
theorem dX8_unkept_28 : decode cX8_unkept 28 = .ok (.aload_n 0, 1) := by decide +kernel
theorem dX8_unkept_29 : decode cX8_unkept 29 = .ok (.getfield 50, 3) := by decide +kernel
theorem dX8_unkept_32 : decode cX8_unkept 32 = .ok (.iload_n 3, 1) := by decide +kernel
theorem dX8_unkept_33 : decode cX8_unkept 33 = .ok (.aaload, 1) := by decide +kernel
theorem dX8_unkept_34 : decode cX8_unkept 34 = .ok (.invokevirtual 287, 3) := by decide +kernel
theorem dX8_unkept_37 : decode cX8_unkept 37 = .ok (.iconst (-1), 1) := by decide +kernel
theorem dX8_unkept_38 : decode cX8_unkept 38 = .ok (.if_icmp .ne 28, 3) := by decide +kernel
theorem dX8_unkept_41 : decode cX8_unkept 41 = .ok (.aload_n 0, 1) := by decide +kernel
theorem dX8_unkept_42 : decode cX8_unkept 42 = .ok (.getfield 50, 3) := by decide +kernel
theorem dX8_unkept_45 : decode cX8_unkept 45 = .ok (.iload_n 3, 1) := by decide +kernel
theorem dX8_unkept_46 : decode cX8_unkept 46 = .ok (.aaload, 1) := by decide +kernel
theorem dX8_unkept_47 : decode cX8_unkept 47 = .ok (.aload_n 0, 1) := by decide +kernel
theorem dX8_unkept_48 : decode cX8_unkept 48 = .ok (.getfield 21, 3) := by decide +kernel
theorem dX8_unkept_51 : decode cX8_unkept 51 = .ok (.getfield 191, 3) := by decide +kernel
theorem dX8_unkept_54 : decode cX8_unkept 54 = .ok (.iload_n 1, 1) := by decide +kernel
theorem dX8_unkept_55 : decode cX8_unkept 55 = .ok (.invokevirtual 290, 3) := by decide +kernel
theorem dX8_unkept_58 : decode cX8_unkept 58 = .ok (.lconst 0, 1) := by decide +kernel
theorem dX8_unkept_59 : decode cX8_unkept 59 = .ok (.lcmp, 1) := by decide +kernel
theorem dX8_unkept_60 : decode cX8_unkept 60 = .ok (.ifCond .eq 6, 3) := by decide +kernel
theorem dX8_unkept_63 : decode cX8_unkept 63 = .ok (.iinc 2 1, 3) := by decide +kernel
theorem dX8_unkept_66 : decode cX8_unkept 66 = .ok (.iinc 3 1, 3) := by decide +kernel
theorem dX8_unkept_69 : decode cX8_unkept 69 = .ok (.goto (-46), 3) := by decide +kernel
theorem dX8_unkept_72 : decode cX8_unkept 72 = .ok (.iload_n 2, 1) := by decide +kernel
theorem dX8_unkept_73 : decode cX8_unkept 73 = .ok (.ireturn, 1) := by decide +kernel
theorem dX8_revision_0 : decode cX8_revision 0 = .ok (.iload_n 1, 1) := by decide +kernel
theorem dX8_revision_1 : decode cX8_revision 1 = .ok (.iload_n 2, 1) := by decide +kernel
theorem dX8_revision_2 : decode cX8_revision 2 = .ok (.iload_n 3, 1) := by decide +kernel
theorem dX8_revision_3 : decode cX8_revision 3 = .ok (.invokestatic 294, 3) := by decide +kernel
theorem dX8_revision_6 : decode cX8_revision 6 = .ok (.ifCond .ne 9, 3) := by decide +kernel
theorem dX8_revision_9 : decode cX8_revision 9 = .ok (.bipush (-2), 2) := by decide +kernel
theorem dX8_revision_11 : decode cX8_revision 11 = .ok (.invokestatic 148, 3) := by decide +kernel
theorem dX8_revision_14 : decode cX8_revision 14 = .ok (.lreturn, 1) := by decide +kernel
theorem dX8_revision_15 : decode cX8_revision 15 = .ok (.aload_n 0, 1) := by decide +kernel
theorem dX8_revision_16 : decode cX8_revision 16 = .ok (.getfield 12, 3) := by decide +kernel
theorem dX8_revision_19 : decode cX8_revision 19 = .ok (.iload_n 1, 1) := by decide +kernel
theorem dX8_revision_20 : decode cX8_revision 20 = .ok (.iload_n 3, 1) := by decide +kernel
theorem dX8_revision_21 : decode cX8_revision 21 = .ok (.bipush 9, 2) := by decide +kernel
theorem dX8_revision_23 : decode cX8_revision 23 = .ok (.invokevirtual 297, 3) := by decide +kernel
theorem dX8_revision_26 : decode cX8_revision 26 = .ok (.aload_n 0, 1) := by decide +kernel
theorem dX8_revision_27 : decode cX8_revision 27 = .ok (.getfield 12, 3) := by decide +kernel
theorem dX8_revision_30 : decode cX8_revision 30 = .ok (.iload_n 1, 1) := by decide +kernel
theorem dX8_revision_31 : decode cX8_revision 31 = .ok (.iload_n 2, 1) := by decide +kernel
theorem dX8_revision_32 : decode cX8_revision 32 = .ok (.bipush 9, 2) := by decide +kernel
theorem dX8_revision_34 : decode cX8_revision 34 = .ok (.invokevirtual 297, 3) := by decide +kernel
theorem dX8_revision_37 : decode cX8_revision 37 = .ok (.lsub, 1) := by decide +kernel
theorem dX8_revision_38 : decode cX8_revision 38 = .ok (.lreturn, 1) := by decide +kernel
theorem dX8_steps_0 : decode cX8_steps 0 = .ok (.iload_n 1, 1) := by decide +kernel
theorem dX8_steps_1 : decode cX8_steps 1 = .ok (.iload_n 2, 1) := by decide +kernel
theorem dX8_steps_2 : decode cX8_steps 2 = .ok (.iload_n 3, 1) := by decide +kernel
theorem dX8_steps_3 : decode cX8_steps 3 = .ok (.invokestatic 294, 3) := by decide +kernel
theorem dX8_steps_6 : decode cX8_steps 6 = .ok (.ifCond .ne 6, 3) := by decide +kernel
theorem dX8_steps_9 : decode cX8_steps 9 = .ok (.bipush (-2), 2) := by decide +kernel
theorem dX8_steps_11 : decode cX8_steps 11 = .ok (.ireturn, 1) := by decide +kernel
theorem dX8_steps_12 : decode cX8_steps 12 = .ok (.iconst 0, 1) := by decide +kernel
theorem dX8_steps_13 : decode cX8_steps 13 = .ok (.istore 4, 2) := by decide +kernel
theorem dX8_steps_15 : decode cX8_steps 15 = .ok (.iload_n 2, 1) := by decide +kernel
theorem dX8_steps_16 : decode cX8_steps 16 = .ok (.invokestatic 300, 3) := by decide +kernel
theorem dX8_steps_19 : decode cX8_steps 19 = .ok (.istore 5, 2) := by decide +kernel
theorem dX8_steps_21 : decode cX8_steps 21 = .ok (.iload 5, 2) := by decide +kernel
theorem dX8_steps_23 : decode cX8_steps 23 = .ok (.iload_n 3, 1) := by decide +kernel
theorem dX8_steps_24 : decode cX8_steps 24 = .ok (.invokestatic 300, 3) := by decide +kernel
theorem dX8_steps_27 : decode cX8_steps 27 = .ok (.if_icmp .ge 33, 3) := by decide +kernel
theorem dX8_steps_30 : decode cX8_steps 30 = .ok (.aload_n 0, 1) := by decide +kernel
theorem dX8_steps_31 : decode cX8_steps 31 = .ok (.getfield 12, 3) := by decide +kernel
theorem dX8_steps_34 : decode cX8_steps 34 = .ok (.iload_n 1, 1) := by decide +kernel
theorem dX8_steps_35 : decode cX8_steps 35 = .ok (.iload 5, 2) := by decide +kernel
theorem dX8_steps_37 : decode cX8_steps 37 = .ok (.bipush 10, 2) := by decide +kernel
theorem dX8_steps_39 : decode cX8_steps 39 = .ok (.irem, 1) := by decide +kernel
theorem dX8_steps_40 : decode cX8_steps 40 = .ok (.iload 5, 2) := by decide +kernel
theorem dX8_steps_42 : decode cX8_steps 42 = .ok (.bipush 10, 2) := by decide +kernel
theorem dX8_steps_44 : decode cX8_steps 44 = .ok (.idiv, 1) := by decide +kernel
theorem dX8_steps_45 : decode cX8_steps 45 = .ok (.invokevirtual 303, 3) := by decide +kernel
theorem dX8_steps_48 : decode cX8_steps 48 = .ok (.ifCond .eq 6, 3) := by decide +kernel
theorem dX8_steps_51 : decode cX8_steps 51 = .ok (.iinc 4 1, 3) := by decide +kernel
theorem dX8_steps_54 : decode cX8_steps 54 = .ok (.iinc 5 1, 3) := by decide +kernel
theorem dX8_steps_57 : decode cX8_steps 57 = .ok (.goto (-36), 3) := by decide +kernel
theorem dX8_steps_60 : decode cX8_steps 60 = .ok (.iload 4, 2) := by decide +kernel
theorem dX8_steps_62 : decode cX8_steps 62 = .ok (.ireturn, 1) := by decide +kernel
theorem dX8_step_0 : decode cX8_step 0 = .ok (.iload_n 1, 1) := by decide +kernel
theorem dX8_step_1 : decode cX8_step 1 = .ok (.iload_n 2, 1) := by decide +kernel
theorem dX8_step_2 : decode cX8_step 2 = .ok (.iload_n 3, 1) := by decide +kernel
theorem dX8_step_3 : decode cX8_step 3 = .ok (.invokestatic 294, 3) := by decide +kernel
theorem dX8_step_6 : decode cX8_step 6 = .ok (.ifCond .eq 18, 3) := by decide +kernel
theorem dX8_step_9 : decode cX8_step 9 = .ok (.iload 4, 2) := by decide +kernel
theorem dX8_step_11 : decode cX8_step 11 = .ok (.ifCond .lt 13, 3) := by decide +kernel
theorem dX8_step_14 : decode cX8_step 14 = .ok (.iload 5, 2) := by decide +kernel
theorem dX8_step_16 : decode cX8_step 16 = .ok (.iconst 0, 1) := by decide +kernel
theorem dX8_step_17 : decode cX8_step 17 = .ok (.iconst 2, 1) := by decide +kernel
theorem dX8_step_18 : decode cX8_step 18 = .ok (.invokestatic 109, 3) := by decide +kernel
theorem dX8_step_21 : decode cX8_step 21 = .ok (.ifCond .ne 9, 3) := by decide +kernel
theorem dX8_step_24 : decode cX8_step 24 = .ok (.bipush (-2), 2) := by decide +kernel
theorem dX8_step_26 : decode cX8_step 26 = .ok (.invokestatic 148, 3) := by decide +kernel
theorem dX8_step_29 : decode cX8_step 29 = .ok (.lreturn, 1) := by decide +kernel
theorem dX8_step_30 : decode cX8_step 30 = .ok (.aload_n 0, 1) := by decide +kernel
theorem dX8_step_31 : decode cX8_step 31 = .ok (.getfield 12, 3) := by decide +kernel
theorem dX8_step_34 : decode cX8_step 34 = .ok (.iload_n 1, 1) := by decide +kernel
theorem dX8_step_35 : decode cX8_step 35 = .ok (.iload_n 2, 1) := by decide +kernel
theorem dX8_step_36 : decode cX8_step 36 = .ok (.invokestatic 300, 3) := by decide +kernel
theorem dX8_step_39 : decode cX8_step 39 = .ok (.iload_n 3, 1) := by decide +kernel
theorem dX8_step_40 : decode cX8_step 40 = .ok (.invokestatic 300, 3) := by decide +kernel
theorem dX8_step_43 : decode cX8_step 43 = .ok (.iload 4, 2) := by decide +kernel
theorem dX8_step_45 : decode cX8_step 45 = .ok (.invokevirtual 306, 3) := by decide +kernel
theorem dX8_step_48 : decode cX8_step 48 = .ok (.istore 6, 2) := by decide +kernel
theorem dX8_step_50 : decode cX8_step 50 = .ok (.iload 6, 2) := by decide +kernel
theorem dX8_step_52 : decode cX8_step 52 = .ok (.iconst (-1), 1) := by decide +kernel
theorem dX8_step_53 : decode cX8_step 53 = .ok (.if_icmp .ne 9, 3) := by decide +kernel
theorem dX8_step_56 : decode cX8_step 56 = .ok (.bipush (-2), 2) := by decide +kernel
theorem dX8_step_58 : decode cX8_step 58 = .ok (.invokestatic 148, 3) := by decide +kernel
theorem dX8_step_61 : decode cX8_step 61 = .ok (.lreturn, 1) := by decide +kernel
theorem dX8_step_62 : decode cX8_step 62 = .ok (.iload 6, 2) := by decide +kernel
theorem dX8_step_64 : decode cX8_step 64 = .ok (.bipush 10, 2) := by decide +kernel
theorem dX8_step_66 : decode cX8_step 66 = .ok (.irem, 1) := by decide +kernel
theorem dX8_step_67 : decode cX8_step 67 = .ok (.istore 7, 2) := by decide +kernel
theorem dX8_step_69 : decode cX8_step 69 = .ok (.iload 6, 2) := by decide +kernel
theorem dX8_step_71 : decode cX8_step 71 = .ok (.bipush 10, 2) := by decide +kernel
theorem dX8_step_73 : decode cX8_step 73 = .ok (.idiv, 1) := by decide +kernel
theorem dX8_step_74 : decode cX8_step 74 = .ok (.istore 8, 2) := by decide +kernel
theorem dX8_step_76 : decode cX8_step 76 = .ok (.iload 5, 2) := by decide +kernel
theorem dX8_step_78 : decode cX8_step 78 = .ok (.lookupswitch 58 #[(0, 26), (1, 54)], 26) := by decide +kernel
theorem dX8_step_104 : decode cX8_step 104 = .ok (.aload_n 0, 1) := by decide +kernel
theorem dX8_step_105 : decode cX8_step 105 = .ok (.getfield 12, 3) := by decide +kernel
theorem dX8_step_108 : decode cX8_step 108 = .ok (.iload_n 1, 1) := by decide +kernel
theorem dX8_step_109 : decode cX8_step 109 = .ok (.iload 8, 2) := by decide +kernel
theorem dX8_step_111 : decode cX8_step 111 = .ok (.iload 7, 2) := by decide +kernel
theorem dX8_step_113 : decode cX8_step 113 = .ok (.invokevirtual 297, 3) := by decide +kernel
theorem dX8_step_116 : decode cX8_step 116 = .ok (.aload_n 0, 1) := by decide +kernel
theorem dX8_step_117 : decode cX8_step 117 = .ok (.getfield 12, 3) := by decide +kernel
theorem dX8_step_120 : decode cX8_step 120 = .ok (.iload_n 1, 1) := by decide +kernel
theorem dX8_step_121 : decode cX8_step 121 = .ok (.iload 8, 2) := by decide +kernel
theorem dX8_step_123 : decode cX8_step 123 = .ok (.iload 7, 2) := by decide +kernel
theorem dX8_step_125 : decode cX8_step 125 = .ok (.iconst 1, 1) := by decide +kernel
theorem dX8_step_126 : decode cX8_step 126 = .ok (.isub, 1) := by decide +kernel
theorem dX8_step_127 : decode cX8_step 127 = .ok (.invokevirtual 297, 3) := by decide +kernel
theorem dX8_step_130 : decode cX8_step 130 = .ok (.lsub, 1) := by decide +kernel
theorem dX8_step_131 : decode cX8_step 131 = .ok (.lreturn, 1) := by decide +kernel
theorem dX8_step_132 : decode cX8_step 132 = .ok (.iload 7, 2) := by decide +kernel
theorem dX8_step_134 : decode cX8_step 134 = .ok (.i2l, 1) := by decide +kernel
theorem dX8_step_135 : decode cX8_step 135 = .ok (.lreturn, 1) := by decide +kernel
theorem dX8_step_136 : decode cX8_step 136 = .ok (.iload 8, 2) := by decide +kernel
theorem dX8_step_138 : decode cX8_step 138 = .ok (.i2l, 1) := by decide +kernel
theorem dX8_step_139 : decode cX8_step 139 = .ok (.lreturn, 1) := by decide +kernel
theorem dX8_led_0 : decode cX8_led 0 = .ok (.iload_n 1, 1) := by decide +kernel
theorem dX8_led_1 : decode cX8_led 1 = .ok (.sipush 720, 3) := by decide +kernel
theorem dX8_led_4 : decode cX8_led 4 = .ok (.invokestatic 66, 3) := by decide +kernel
theorem dX8_led_7 : decode cX8_led 7 = .ok (.ifCond .eq 14, 3) := by decide +kernel
theorem dX8_led_10 : decode cX8_led 10 = .ok (.iload_n 2, 1) := by decide +kernel
theorem dX8_led_11 : decode cX8_led 11 = .ok (.ifCond .eq 16, 3) := by decide +kernel
theorem dX8_led_14 : decode cX8_led 14 = .ok (.iload_n 1, 1) := by decide +kernel
theorem dX8_led_15 : decode cX8_led 15 = .ok (.invokestatic 105, 3) := by decide +kernel
theorem dX8_led_18 : decode cX8_led 18 = .ok (.ifCond .eq 9, 3) := by decide +kernel
theorem dX8_led_21 : decode cX8_led 21 = .ok (.bipush (-2), 2) := by decide +kernel
theorem dX8_led_23 : decode cX8_led 23 = .ok (.invokestatic 148, 3) := by decide +kernel
theorem dX8_led_26 : decode cX8_led 26 = .ok (.lreturn, 1) := by decide +kernel
theorem dX8_led_27 : decode cX8_led 27 = .ok (.lconst 0, 1) := by decide +kernel
theorem dX8_led_28 : decode cX8_led 28 = .ok (.lstore_n 3, 1) := by decide +kernel
theorem dX8_led_29 : decode cX8_led 29 = .ok (.iconst 0, 1) := by decide +kernel
theorem dX8_led_30 : decode cX8_led 30 = .ok (.istore 5, 2) := by decide +kernel
theorem dX8_led_32 : decode cX8_led 32 = .ok (.iload 5, 2) := by decide +kernel
theorem dX8_led_34 : decode cX8_led 34 = .ok (.aload_n 0, 1) := by decide +kernel
theorem dX8_led_35 : decode cX8_led 35 = .ok (.getfield 12, 3) := by decide +kernel
theorem dX8_led_38 : decode cX8_led 38 = .ok (.getfield 112, 3) := by decide +kernel
theorem dX8_led_41 : decode cX8_led 41 = .ok (.if_icmp .ge 82, 3) := by decide +kernel
theorem dX8_led_44 : decode cX8_led 44 = .ok (.iload 5, 2) := by decide +kernel
theorem dX8_led_46 : decode cX8_led 46 = .ok (.bipush 63, 2) := by decide +kernel
theorem dX8_led_48 : decode cX8_led 48 = .ok (.if_icmp .ge 75, 3) := by decide +kernel
theorem dX8_led_51 : decode cX8_led 51 = .ok (.iload_n 2, 1) := by decide +kernel
theorem dX8_led_52 : decode cX8_led 52 = .ok (.ifCond .eq 20, 3) := by decide +kernel
theorem dX8_led_55 : decode cX8_led 55 = .ok (.iload_n 1, 1) := by decide +kernel
theorem dX8_led_56 : decode cX8_led 56 = .ok (.aload_n 0, 1) := by decide +kernel
theorem dX8_led_57 : decode cX8_led 57 = .ok (.getfield 12, 3) := by decide +kernel
theorem dX8_led_60 : decode cX8_led 60 = .ok (.getfield 129, 3) := by decide +kernel
theorem dX8_led_63 : decode cX8_led 63 = .ok (.iload 5, 2) := by decide +kernel
theorem dX8_led_65 : decode cX8_led 65 = .ok (.iaload, 1) := by decide +kernel
theorem dX8_led_66 : decode cX8_led 66 = .ok (.invokestatic 309, 3) := by decide +kernel
theorem dX8_led_69 : decode cX8_led 69 = .ok (.goto 22, 3) := by decide +kernel
theorem dX8_led_72 : decode cX8_led 72 = .ok (.iload_n 1, 1) := by decide +kernel
theorem dX8_led_73 : decode cX8_led 73 = .ok (.aload_n 0, 1) := by decide +kernel
theorem dX8_led_74 : decode cX8_led 74 = .ok (.getfield 12, 3) := by decide +kernel
theorem dX8_led_77 : decode cX8_led 77 = .ok (.getfield 129, 3) := by decide +kernel
theorem dX8_led_80 : decode cX8_led 80 = .ok (.iload 5, 2) := by decide +kernel
theorem dX8_led_82 : decode cX8_led 82 = .ok (.iaload, 1) := by decide +kernel
theorem dX8_led_83 : decode cX8_led 83 = .ok (.if_icmp .ne 7, 3) := by decide +kernel
theorem dX8_led_86 : decode cX8_led 86 = .ok (.iconst 1, 1) := by decide +kernel
theorem dX8_led_87 : decode cX8_led 87 = .ok (.goto 4, 3) := by decide +kernel
theorem dX8_led_90 : decode cX8_led 90 = .ok (.iconst 0, 1) := by decide +kernel
theorem dX8_led_91 : decode cX8_led 91 = .ok (.istore 6, 2) := by decide +kernel
theorem dX8_led_93 : decode cX8_led 93 = .ok (.iload 6, 2) := by decide +kernel
theorem dX8_led_95 : decode cX8_led 95 = .ok (.ifCond .eq 22, 3) := by decide +kernel
theorem dX8_led_98 : decode cX8_led 98 = .ok (.aload_n 0, 1) := by decide +kernel
theorem dX8_led_99 : decode cX8_led 99 = .ok (.getfield 12, 3) := by decide +kernel
theorem dX8_led_102 : decode cX8_led 102 = .ok (.iload 5, 2) := by decide +kernel
theorem dX8_led_104 : decode cX8_led 104 = .ok (.invokevirtual 138, 3) := by decide +kernel
theorem dX8_led_107 : decode cX8_led 107 = .ok (.ifCond .eq 10, 3) := by decide +kernel
theorem dX8_led_110 : decode cX8_led 110 = .ok (.lload_n 3, 1) := by decide +kernel
theorem dX8_led_111 : decode cX8_led 111 = .ok (.lconst 1, 1) := by decide +kernel
theorem dX8_led_112 : decode cX8_led 112 = .ok (.iload 5, 2) := by decide +kernel
theorem dX8_led_114 : decode cX8_led 114 = .ok (.lshl, 1) := by decide +kernel
theorem dX8_led_115 : decode cX8_led 115 = .ok (.lor, 1) := by decide +kernel
theorem dX8_led_116 : decode cX8_led 116 = .ok (.lstore_n 3, 1) := by decide +kernel
theorem dX8_led_117 : decode cX8_led 117 = .ok (.iinc 5 1, 3) := by decide +kernel
theorem dX8_led_120 : decode cX8_led 120 = .ok (.goto (-88), 3) := by decide +kernel
theorem dX8_led_123 : decode cX8_led 123 = .ok (.lload_n 3, 1) := by decide +kernel
theorem dX8_led_124 : decode cX8_led 124 = .ok (.lreturn, 1) := by decide +kernel
theorem dX8_sheet_0 : decode cX8_sheet 0 = .ok (.iload_n 1, 1) := by decide +kernel
theorem dX8_sheet_1 : decode cX8_sheet 1 = .ok (.iconst 4, 1) := by decide +kernel
theorem dX8_sheet_2 : decode cX8_sheet 2 = .ok (.invokestatic 66, 3) := by decide +kernel
theorem dX8_sheet_5 : decode cX8_sheet 5 = .ok (.ifCond .eq 17, 3) := by decide +kernel
theorem dX8_sheet_8 : decode cX8_sheet 8 = .ok (.iload_n 2, 1) := by decide +kernel
theorem dX8_sheet_9 : decode cX8_sheet 9 = .ok (.iconst 3, 1) := by decide +kernel
theorem dX8_sheet_10 : decode cX8_sheet 10 = .ok (.invokestatic 66, 3) := by decide +kernel
theorem dX8_sheet_13 : decode cX8_sheet 13 = .ok (.ifCond .eq 9, 3) := by decide +kernel
theorem dX8_sheet_16 : decode cX8_sheet 16 = .ok (.iload_n 3, 1) := by decide +kernel
theorem dX8_sheet_17 : decode cX8_sheet 17 = .ok (.bipush 60, 2) := by decide +kernel
theorem dX8_sheet_19 : decode cX8_sheet 19 = .ok (.if_icmp .le 6, 3) := by decide +kernel
theorem dX8_sheet_22 : decode cX8_sheet 22 = .ok (.bipush (-2), 2) := by decide +kernel
theorem dX8_sheet_24 : decode cX8_sheet 24 = .ok (.ireturn, 1) := by decide +kernel
theorem dX8_sheet_25 : decode cX8_sheet 25 = .ok (.iload_n 3, 1) := by decide +kernel
theorem dX8_sheet_26 : decode cX8_sheet 26 = .ok (.ifCond .ge 9, 3) := by decide +kernel
theorem dX8_sheet_29 : decode cX8_sheet 29 = .ok (.aload_n 0, 1) := by decide +kernel
theorem dX8_sheet_30 : decode cX8_sheet 30 = .ok (.iconst 5, 1) := by decide +kernel
theorem dX8_sheet_31 : decode cX8_sheet 31 = .ok (.invokevirtual 312, 3) := by decide +kernel
theorem dX8_sheet_34 : decode cX8_sheet 34 = .ok (.ireturn, 1) := by decide +kernel
theorem dX8_sheet_35 : decode cX8_sheet 35 = .ok (.aload_n 0, 1) := by decide +kernel
theorem dX8_sheet_36 : decode cX8_sheet 36 = .ok (.getfield 56, 3) := by decide +kernel
theorem dX8_sheet_39 : decode cX8_sheet 39 = .ok (.iload_n 1, 1) := by decide +kernel
theorem dX8_sheet_40 : decode cX8_sheet 40 = .ok (.aaload, 1) := by decide +kernel
theorem dX8_sheet_41 : decode cX8_sheet 41 = .ok (.iload_n 2, 1) := by decide +kernel
theorem dX8_sheet_42 : decode cX8_sheet 42 = .ok (.iload_n 3, 1) := by decide +kernel
theorem dX8_sheet_43 : decode cX8_sheet 43 = .ok (.invokevirtual 315, 3) := by decide +kernel
theorem dX8_sheet_46 : decode cX8_sheet 46 = .ok (.iload_n 3, 1) := by decide +kernel
theorem dX8_sheet_47 : decode cX8_sheet 47 = .ok (.ireturn, 1) := by decide +kernel
theorem dX8_lose_0 : decode cX8_lose 0 = .ok (.iload_n 1, 1) := by decide +kernel
theorem dX8_lose_1 : decode cX8_lose 1 = .ok (.iconst 4, 1) := by decide +kernel
theorem dX8_lose_2 : decode cX8_lose 2 = .ok (.invokestatic 66, 3) := by decide +kernel
theorem dX8_lose_5 : decode cX8_lose 5 = .ok (.ifCond .ne 6, 3) := by decide +kernel
theorem dX8_lose_8 : decode cX8_lose 8 = .ok (.bipush (-2), 2) := by decide +kernel
theorem dX8_lose_10 : decode cX8_lose 10 = .ok (.ireturn, 1) := by decide +kernel
theorem dX8_lose_11 : decode cX8_lose 11 = .ok (.aload_n 0, 1) := by decide +kernel
theorem dX8_lose_12 : decode cX8_lose 12 = .ok (.getfield 56, 3) := by decide +kernel
theorem dX8_lose_15 : decode cX8_lose 15 = .ok (.iload_n 1, 1) := by decide +kernel
theorem dX8_lose_16 : decode cX8_lose 16 = .ok (.aaload, 1) := by decide +kernel
theorem dX8_lose_17 : decode cX8_lose 17 = .ok (.getfield 319, 3) := by decide +kernel
theorem dX8_lose_20 : decode cX8_lose 20 = .ok (.ifCond .eq 9, 3) := by decide +kernel
theorem dX8_lose_23 : decode cX8_lose 23 = .ok (.aload_n 0, 1) := by decide +kernel
theorem dX8_lose_24 : decode cX8_lose 24 = .ok (.iconst 1, 1) := by decide +kernel
theorem dX8_lose_25 : decode cX8_lose 25 = .ok (.invokevirtual 312, 3) := by decide +kernel
theorem dX8_lose_28 : decode cX8_lose 28 = .ok (.ireturn, 1) := by decide +kernel
theorem dX8_lose_29 : decode cX8_lose 29 = .ok (.aload_n 0, 1) := by decide +kernel
theorem dX8_lose_30 : decode cX8_lose 30 = .ok (.getfield 56, 3) := by decide +kernel
theorem dX8_lose_33 : decode cX8_lose 33 = .ok (.iload_n 1, 1) := by decide +kernel
theorem dX8_lose_34 : decode cX8_lose 34 = .ok (.aaload, 1) := by decide +kernel
theorem dX8_lose_35 : decode cX8_lose 35 = .ok (.iconst 1, 1) := by decide +kernel
theorem dX8_lose_36 : decode cX8_lose 36 = .ok (.putfield 319, 3) := by decide +kernel
theorem dX8_lose_39 : decode cX8_lose 39 = .ok (.aload_n 0, 1) := by decide +kernel
theorem dX8_lose_40 : decode cX8_lose 40 = .ok (.getfield 56, 3) := by decide +kernel
theorem dX8_lose_43 : decode cX8_lose 43 = .ok (.iload_n 1, 1) := by decide +kernel
theorem dX8_lose_44 : decode cX8_lose 44 = .ok (.aaload, 1) := by decide +kernel
theorem dX8_lose_45 : decode cX8_lose 45 = .ok (.getfield 323, 3) := by decide +kernel
theorem dX8_lose_48 : decode cX8_lose 48 = .ok (.ireturn, 1) := by decide +kernel
theorem dX8_put_0 : decode cX8_put 0 = .ok (.aload_n 0, 1) := by decide +kernel
theorem dX8_put_1 : decode cX8_put 1 = .ok (.iload_n 1, 1) := by decide +kernel
theorem dX8_put_2 : decode cX8_put 2 = .ok (.iload_n 2, 1) := by decide +kernel
theorem dX8_put_3 : decode cX8_put 3 = .ok (.iload_n 3, 1) := by decide +kernel
theorem dX8_put_4 : decode cX8_put 4 = .ok (.invokevirtual 324, 3) := by decide +kernel
theorem dX8_put_7 : decode cX8_put 7 = .ok (.istore 5, 2) := by decide +kernel
theorem dX8_put_9 : decode cX8_put 9 = .ok (.iload 5, 2) := by decide +kernel
theorem dX8_put_11 : decode cX8_put 11 = .ok (.ifCond .eq 6, 3) := by decide +kernel
theorem dX8_put_14 : decode cX8_put 14 = .ok (.iload 5, 2) := by decide +kernel
theorem dX8_put_16 : decode cX8_put 16 = .ok (.ireturn, 1) := by decide +kernel
theorem dX8_put_17 : decode cX8_put 17 = .ok (.aload_n 0, 1) := by decide +kernel
theorem dX8_put_18 : decode cX8_put 18 = .ok (.getfield 56, 3) := by decide +kernel
theorem dX8_put_21 : decode cX8_put 21 = .ok (.iload_n 1, 1) := by decide +kernel
theorem dX8_put_22 : decode cX8_put 22 = .ok (.aaload, 1) := by decide +kernel
theorem dX8_put_23 : decode cX8_put 23 = .ok (.iload_n 3, 1) := by decide +kernel
theorem dX8_put_24 : decode cX8_put 24 = .ok (.iload 4, 2) := by decide +kernel
theorem dX8_put_26 : decode cX8_put 26 = .ok (.invokevirtual 327, 3) := by decide +kernel
theorem dX8_put_29 : decode cX8_put 29 = .ok (.iconst 1, 1) := by decide +kernel
theorem dX8_put_30 : decode cX8_put 30 = .ok (.ireturn, 1) := by decide +kernel
theorem dX8_get_0 : decode cX8_get 0 = .ok (.aload_n 0, 1) := by decide +kernel
theorem dX8_get_1 : decode cX8_get 1 = .ok (.iload_n 1, 1) := by decide +kernel
theorem dX8_get_2 : decode cX8_get 2 = .ok (.iload_n 2, 1) := by decide +kernel
theorem dX8_get_3 : decode cX8_get 3 = .ok (.iload_n 3, 1) := by decide +kernel
theorem dX8_get_4 : decode cX8_get 4 = .ok (.invokevirtual 324, 3) := by decide +kernel
theorem dX8_get_7 : decode cX8_get 7 = .ok (.ifCond .eq 9, 3) := by decide +kernel
theorem dX8_get_10 : decode cX8_get 10 = .ok (.ldc_w 330, 3) := by decide +kernel
theorem dX8_get_13 : decode cX8_get 13 = .ok (.goto 14, 3) := by decide +kernel
theorem dX8_get_16 : decode cX8_get 16 = .ok (.aload_n 0, 1) := by decide +kernel
theorem dX8_get_17 : decode cX8_get 17 = .ok (.getfield 56, 3) := by decide +kernel
theorem dX8_get_20 : decode cX8_get 20 = .ok (.iload_n 1, 1) := by decide +kernel
theorem dX8_get_21 : decode cX8_get 21 = .ok (.aaload, 1) := by decide +kernel
theorem dX8_get_22 : decode cX8_get 22 = .ok (.getfield 331, 3) := by decide +kernel
theorem dX8_get_25 : decode cX8_get 25 = .ok (.iload_n 3, 1) := by decide +kernel
theorem dX8_get_26 : decode cX8_get 26 = .ok (.iaload, 1) := by decide +kernel
theorem dX8_get_27 : decode cX8_get 27 = .ok (.ireturn, 1) := by decide +kernel
theorem dX8_copy_0 : decode cX8_copy 0 = .ok (.iload_n 1, 1) := by decide +kernel
theorem dX8_copy_1 : decode cX8_copy 1 = .ok (.iconst 4, 1) := by decide +kernel
theorem dX8_copy_2 : decode cX8_copy 2 = .ok (.invokestatic 66, 3) := by decide +kernel
theorem dX8_copy_5 : decode cX8_copy 5 = .ok (.ifCond .eq 11, 3) := by decide +kernel
theorem dX8_copy_8 : decode cX8_copy 8 = .ok (.iload_n 3, 1) := by decide +kernel
theorem dX8_copy_9 : decode cX8_copy 9 = .ok (.iconst 4, 1) := by decide +kernel
theorem dX8_copy_10 : decode cX8_copy 10 = .ok (.invokestatic 66, 3) := by decide +kernel
theorem dX8_copy_13 : decode cX8_copy 13 = .ok (.ifCond .ne 6, 3) := by decide +kernel
theorem dX8_copy_16 : decode cX8_copy 16 = .ok (.bipush (-2), 2) := by decide +kernel
theorem dX8_copy_18 : decode cX8_copy 18 = .ok (.ireturn, 1) := by decide +kernel
theorem dX8_copy_19 : decode cX8_copy 19 = .ok (.aload_n 0, 1) := by decide +kernel
theorem dX8_copy_20 : decode cX8_copy 20 = .ok (.getfield 56, 3) := by decide +kernel
theorem dX8_copy_23 : decode cX8_copy 23 = .ok (.iload_n 1, 1) := by decide +kernel
theorem dX8_copy_24 : decode cX8_copy 24 = .ok (.aaload, 1) := by decide +kernel
theorem dX8_copy_25 : decode cX8_copy 25 = .ok (.astore 6, 2) := by decide +kernel
theorem dX8_copy_27 : decode cX8_copy 27 = .ok (.aload_n 0, 1) := by decide +kernel
theorem dX8_copy_28 : decode cX8_copy 28 = .ok (.getfield 56, 3) := by decide +kernel
theorem dX8_copy_31 : decode cX8_copy 31 = .ok (.iload_n 3, 1) := by decide +kernel
theorem dX8_copy_32 : decode cX8_copy 32 = .ok (.aaload, 1) := by decide +kernel
theorem dX8_copy_33 : decode cX8_copy 33 = .ok (.astore 7, 2) := by decide +kernel
theorem dX8_copy_35 : decode cX8_copy 35 = .ok (.aload 6, 2) := by decide +kernel
theorem dX8_copy_37 : decode cX8_copy 37 = .ok (.getfield 319, 3) := by decide +kernel
theorem dX8_copy_40 : decode cX8_copy 40 = .ok (.ifCond .ne 11, 3) := by decide +kernel
theorem dX8_copy_43 : decode cX8_copy 43 = .ok (.aload 7, 2) := by decide +kernel
theorem dX8_copy_45 : decode cX8_copy 45 = .ok (.getfield 319, 3) := by decide +kernel
theorem dX8_copy_48 : decode cX8_copy 48 = .ok (.ifCond .eq 9, 3) := by decide +kernel
theorem dX8_copy_51 : decode cX8_copy 51 = .ok (.aload_n 0, 1) := by decide +kernel
theorem dX8_copy_52 : decode cX8_copy 52 = .ok (.iconst 1, 1) := by decide +kernel
theorem dX8_copy_53 : decode cX8_copy 53 = .ok (.invokevirtual 312, 3) := by decide +kernel
theorem dX8_copy_56 : decode cX8_copy 56 = .ok (.ireturn, 1) := by decide +kernel
theorem dX8_copy_57 : decode cX8_copy 57 = .ok (.aload 6, 2) := by decide +kernel
theorem dX8_copy_59 : decode cX8_copy 59 = .ok (.getfield 334, 3) := by decide +kernel
theorem dX8_copy_62 : decode cX8_copy 62 = .ok (.aload 7, 2) := by decide +kernel
theorem dX8_copy_64 : decode cX8_copy 64 = .ok (.getfield 334, 3) := by decide +kernel
theorem dX8_copy_67 : decode cX8_copy 67 = .ok (.if_icmp .eq 9, 3) := by decide +kernel
theorem dX8_copy_70 : decode cX8_copy 70 = .ok (.aload_n 0, 1) := by decide +kernel
theorem dX8_copy_71 : decode cX8_copy 71 = .ok (.iconst 4, 1) := by decide +kernel
theorem dX8_copy_72 : decode cX8_copy 72 = .ok (.invokevirtual 312, 3) := by decide +kernel
theorem dX8_copy_75 : decode cX8_copy 75 = .ok (.ireturn, 1) := by decide +kernel
theorem dX8_copy_76 : decode cX8_copy 76 = .ok (.aload 6, 2) := by decide +kernel
theorem dX8_copy_78 : decode cX8_copy 78 = .ok (.iload_n 2, 1) := by decide +kernel
theorem dX8_copy_79 : decode cX8_copy 79 = .ok (.iload 5, 2) := by decide +kernel
theorem dX8_copy_81 : decode cX8_copy 81 = .ok (.invokevirtual 337, 3) := by decide +kernel
theorem dX8_copy_84 : decode cX8_copy 84 = .ok (.ifCond .eq 15, 3) := by decide +kernel
theorem dX8_copy_87 : decode cX8_copy 87 = .ok (.aload 7, 2) := by decide +kernel
theorem dX8_copy_89 : decode cX8_copy 89 = .ok (.iload 4, 2) := by decide +kernel
theorem dX8_copy_91 : decode cX8_copy 91 = .ok (.iload 5, 2) := by decide +kernel
theorem dX8_copy_93 : decode cX8_copy 93 = .ok (.invokevirtual 337, 3) := by decide +kernel
theorem dX8_copy_96 : decode cX8_copy 96 = .ok (.ifCond .ne 9, 3) := by decide +kernel
theorem dX8_copy_99 : decode cX8_copy 99 = .ok (.aload_n 0, 1) := by decide +kernel
theorem dX8_copy_100 : decode cX8_copy 100 = .ok (.iconst 2, 1) := by decide +kernel
theorem dX8_copy_101 : decode cX8_copy 101 = .ok (.invokevirtual 312, 3) := by decide +kernel
theorem dX8_copy_104 : decode cX8_copy 104 = .ok (.ireturn, 1) := by decide +kernel
theorem dX8_copy_105 : decode cX8_copy 105 = .ok (.aload 6, 2) := by decide +kernel
theorem dX8_copy_107 : decode cX8_copy 107 = .ok (.getfield 331, 3) := by decide +kernel
theorem dX8_copy_110 : decode cX8_copy 110 = .ok (.iload_n 2, 1) := by decide +kernel
theorem dX8_copy_111 : decode cX8_copy 111 = .ok (.aload 7, 2) := by decide +kernel
theorem dX8_copy_113 : decode cX8_copy 113 = .ok (.getfield 331, 3) := by decide +kernel
theorem dX8_copy_116 : decode cX8_copy 116 = .ok (.iload 4, 2) := by decide +kernel
theorem dX8_copy_118 : decode cX8_copy 118 = .ok (.iload 5, 2) := by decide +kernel
theorem dX8_copy_120 : decode cX8_copy 120 = .ok (.invokestatic 340, 3) := by decide +kernel
theorem dX8_copy_123 : decode cX8_copy 123 = .ok (.iconst 1, 1) := by decide +kernel
theorem dX8_copy_124 : decode cX8_copy 124 = .ok (.ireturn, 1) := by decide +kernel
theorem dX8_read_0 : decode cX8_read 0 = .ok (.iload_n 1, 1) := by decide +kernel
theorem dX8_read_1 : decode cX8_read 1 = .ok (.iconst 4, 1) := by decide +kernel
theorem dX8_read_2 : decode cX8_read 2 = .ok (.invokestatic 66, 3) := by decide +kernel
theorem dX8_read_5 : decode cX8_read 5 = .ok (.ifCond .ne 6, 3) := by decide +kernel
theorem dX8_read_8 : decode cX8_read 8 = .ok (.bipush (-2), 2) := by decide +kernel
theorem dX8_read_10 : decode cX8_read 10 = .ok (.ireturn, 1) := by decide +kernel
theorem dX8_read_11 : decode cX8_read 11 = .ok (.aload_n 0, 1) := by decide +kernel
theorem dX8_read_12 : decode cX8_read 12 = .ok (.getfield 56, 3) := by decide +kernel
theorem dX8_read_15 : decode cX8_read 15 = .ok (.iload_n 1, 1) := by decide +kernel
theorem dX8_read_16 : decode cX8_read 16 = .ok (.aaload, 1) := by decide +kernel
theorem dX8_read_17 : decode cX8_read 17 = .ok (.getfield 319, 3) := by decide +kernel
theorem dX8_read_20 : decode cX8_read 20 = .ok (.ifCond .eq 9, 3) := by decide +kernel
theorem dX8_read_23 : decode cX8_read 23 = .ok (.aload_n 0, 1) := by decide +kernel
theorem dX8_read_24 : decode cX8_read 24 = .ok (.iconst 1, 1) := by decide +kernel
theorem dX8_read_25 : decode cX8_read 25 = .ok (.invokevirtual 312, 3) := by decide +kernel
theorem dX8_read_28 : decode cX8_read 28 = .ok (.ireturn, 1) := by decide +kernel
theorem dX8_read_29 : decode cX8_read 29 = .ok (.aload_n 0, 1) := by decide +kernel
theorem dX8_read_30 : decode cX8_read 30 = .ok (.getfield 56, 3) := by decide +kernel
theorem dX8_read_33 : decode cX8_read 33 = .ok (.iload_n 1, 1) := by decide +kernel
theorem dX8_read_34 : decode cX8_read 34 = .ok (.aaload, 1) := by decide +kernel
theorem dX8_read_35 : decode cX8_read 35 = .ok (.getfield 331, 3) := by decide +kernel
theorem dX8_read_38 : decode cX8_read 38 = .ok (.astore_n 2, 1) := by decide +kernel
theorem dX8_read_39 : decode cX8_read 39 = .ok (.iconst 0, 1) := by decide +kernel
theorem dX8_read_40 : decode cX8_read 40 = .ok (.istore_n 3, 1) := by decide +kernel
theorem dX8_read_41 : decode cX8_read 41 = .ok (.iconst 0, 1) := by decide +kernel
theorem dX8_read_42 : decode cX8_read 42 = .ok (.istore 4, 2) := by decide +kernel
theorem dX8_read_44 : decode cX8_read 44 = .ok (.iload 4, 2) := by decide +kernel
theorem dX8_read_46 : decode cX8_read 46 = .ok (.iconst 4, 1) := by decide +kernel
theorem dX8_read_47 : decode cX8_read 47 = .ok (.iadd, 1) := by decide +kernel
theorem dX8_read_48 : decode cX8_read 48 = .ok (.aload_n 0, 1) := by decide +kernel
theorem dX8_read_49 : decode cX8_read 49 = .ok (.getfield 56, 3) := by decide +kernel
theorem dX8_read_52 : decode cX8_read 52 = .ok (.iload_n 1, 1) := by decide +kernel
theorem dX8_read_53 : decode cX8_read 53 = .ok (.aaload, 1) := by decide +kernel
theorem dX8_read_54 : decode cX8_read 54 = .ok (.getfield 323, 3) := by decide +kernel
theorem dX8_read_57 : decode cX8_read 57 = .ok (.if_icmp .gt 43, 3) := by decide +kernel
theorem dX8_read_60 : decode cX8_read 60 = .ok (.aload_n 0, 1) := by decide +kernel
theorem dX8_read_61 : decode cX8_read 61 = .ok (.aload_n 2, 1) := by decide +kernel
