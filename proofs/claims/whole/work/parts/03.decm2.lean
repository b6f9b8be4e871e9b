theorem dX9_flow_70 : decode cX9_flow 70 = .ok (.lastore, 1) := by decide +kernel
theorem dX9_flow_71 : decode cX9_flow 71 = .ok (.aload_n 0, 1) := by decide +kernel
theorem dX9_flow_72 : decode cX9_flow 72 = .ok (.getfield 76, 3) := by decide +kernel
theorem dX9_flow_75 : decode cX9_flow 75 = .ok (.iload 5, 2) := by decide +kernel
theorem dX9_flow_77 : decode cX9_flow 77 = .ok (.laload, 1) := by decide +kernel
theorem dX9_flow_78 : decode cX9_flow 78 = .ok (.lreturn, 1) := by decide +kernel
theorem dX9_netOf_0 : decode cX9_netOf 0 = .ok (.lconst 0, 1) := by decide +kernel
theorem dX9_netOf_1 : decode cX9_netOf 1 = .ok (.lstore_n 3, 1) := by decide +kernel
theorem dX9_netOf_2 : decode cX9_netOf 2 = .ok (.iconst 0, 1) := by decide +kernel
theorem dX9_netOf_3 : decode cX9_netOf 3 = .ok (.istore 5, 2) := by decide +kernel
theorem dX9_netOf_5 : decode cX9_netOf 5 = .ok (.iload 5, 2) := by decide +kernel
theorem dX9_netOf_7 : decode cX9_netOf 7 = .ok (.bipush 6, 2) := by decide +kernel
theorem dX9_netOf_9 : decode cX9_netOf 9 = .ok (.if_icmp .ge 47, 3) := by decide +kernel
theorem dX9_netOf_12 : decode cX9_netOf 12 = .ok (.lload_n 3, 1) := by decide +kernel
theorem dX9_netOf_13 : decode cX9_netOf 13 = .ok (.aload_n 0, 1) := by decide +kernel
theorem dX9_netOf_14 : decode cX9_netOf 14 = .ok (.getfield 76, 3) := by decide +kernel
theorem dX9_netOf_17 : decode cX9_netOf 17 = .ok (.bipush 72, 2) := by decide +kernel
theorem dX9_netOf_19 : decode cX9_netOf 19 = .ok (.iload 5, 2) := by decide +kernel
theorem dX9_netOf_21 : decode cX9_netOf 21 = .ok (.imul, 1) := by decide +kernel
theorem dX9_netOf_22 : decode cX9_netOf 22 = .ok (.bipush 12, 2) := by decide +kernel
theorem dX9_netOf_24 : decode cX9_netOf 24 = .ok (.iload_n 1, 1) := by decide +kernel
theorem dX9_netOf_25 : decode cX9_netOf 25 = .ok (.imul, 1) := by decide +kernel
theorem dX9_netOf_26 : decode cX9_netOf 26 = .ok (.iadd, 1) := by decide +kernel
theorem dX9_netOf_27 : decode cX9_netOf 27 = .ok (.iload_n 2, 1) := by decide +kernel
theorem dX9_netOf_28 : decode cX9_netOf 28 = .ok (.iadd, 1) := by decide +kernel
theorem dX9_netOf_29 : decode cX9_netOf 29 = .ok (.laload, 1) := by decide +kernel
theorem dX9_netOf_30 : decode cX9_netOf 30 = .ok (.aload_n 0, 1) := by decide +kernel
theorem dX9_netOf_31 : decode cX9_netOf 31 = .ok (.getfield 76, 3) := by decide +kernel
theorem dX9_netOf_34 : decode cX9_netOf 34 = .ok (.bipush 72, 2) := by decide +kernel
theorem dX9_netOf_36 : decode cX9_netOf 36 = .ok (.iload_n 1, 1) := by decide +kernel
theorem dX9_netOf_37 : decode cX9_netOf 37 = .ok (.imul, 1) := by decide +kernel
theorem dX9_netOf_38 : decode cX9_netOf 38 = .ok (.bipush 12, 2) := by decide +kernel
theorem dX9_netOf_40 : decode cX9_netOf 40 = .ok (.iload 5, 2) := by decide +kernel
theorem dX9_netOf_42 : decode cX9_netOf 42 = .ok (.imul, 1) := by decide +kernel
theorem dX9_netOf_43 : decode cX9_netOf 43 = .ok (.iadd, 1) := by decide +kernel
theorem dX9_netOf_44 : decode cX9_netOf 44 = .ok (.iload_n 2, 1) := by decide +kernel
theorem dX9_netOf_45 : decode cX9_netOf 45 = .ok (.iadd, 1) := by decide +kernel
theorem dX9_netOf_46 : decode cX9_netOf 46 = .ok (.laload, 1) := by decide +kernel
theorem dX9_netOf_47 : decode cX9_netOf 47 = .ok (.lsub, 1) := by decide +kernel
theorem dX9_netOf_48 : decode cX9_netOf 48 = .ok (.ladd, 1) := by decide +kernel
theorem dX9_netOf_49 : decode cX9_netOf 49 = .ok (.lstore_n 3, 1) := by decide +kernel
theorem dX9_netOf_50 : decode cX9_netOf 50 = .ok (.iinc 5 1, 3) := by decide +kernel
theorem dX9_netOf_53 : decode cX9_netOf 53 = .ok (.goto (-48), 3) := by decide +kernel
theorem dX9_netOf_56 : decode cX9_netOf 56 = .ok (.lload_n 3, 1) := by decide +kernel
theorem dX9_netOf_57 : decode cX9_netOf 57 = .ok (.lreturn, 1) := by decide +kernel
theorem dX9_net_0 : decode cX9_net 0 = .ok (.iload_n 1, 1) := by decide +kernel
theorem dX9_net_1 : decode cX9_net 1 = .ok (.invokestatic 278, 3) := by decide +kernel
theorem dX9_net_4 : decode cX9_net 4 = .ok (.ifCond .eq 19, 3) := by decide +kernel
theorem dX9_net_7 : decode cX9_net 7 = .ok (.iload_n 2, 1) := by decide +kernel
theorem dX9_net_8 : decode cX9_net 8 = .ok (.invokestatic 281, 3) := by decide +kernel
theorem dX9_net_11 : decode cX9_net 11 = .ok (.ifCond .eq 12, 3) := by decide +kernel
theorem dX9_net_14 : decode cX9_net 14 = .ok (.aload_n 0, 1) := by decide +kernel
theorem dX9_net_15 : decode cX9_net 15 = .ok (.iload_n 1, 1) := by decide +kernel
theorem dX9_net_16 : decode cX9_net 16 = .ok (.iload_n 2, 1) := by decide +kernel
theorem dX9_net_17 : decode cX9_net 17 = .ok (.invokevirtual 286, 3) := by decide +kernel
theorem dX9_net_20 : decode cX9_net 20 = .ok (.goto 6, 3) := by decide +kernel
theorem dX9_net_23 : decode cX9_net 23 = .ok (.ldc2_w 189, 3) := by decide +kernel
theorem dX9_net_26 : decode cX9_net 26 = .ok (.lreturn, 1) := by decide +kernel
theorem dX9_stock_0 : decode cX9_stock 0 = .ok (.iload_n 1, 1) := by decide +kernel
theorem dX9_stock_1 : decode cX9_stock 1 = .ok (.invokestatic 278, 3) := by decide +kernel
theorem dX9_stock_4 : decode cX9_stock 4 = .ok (.ifCond .eq 24, 3) := by decide +kernel
theorem dX9_stock_7 : decode cX9_stock 7 = .ok (.iload_n 2, 1) := by decide +kernel
theorem dX9_stock_8 : decode cX9_stock 8 = .ok (.invokestatic 281, 3) := by decide +kernel
theorem dX9_stock_11 : decode cX9_stock 11 = .ok (.ifCond .eq 17, 3) := by decide +kernel
theorem dX9_stock_14 : decode cX9_stock 14 = .ok (.iload_n 3, 1) := by decide +kernel
theorem dX9_stock_15 : decode cX9_stock 15 = .ok (.i2l, 1) := by decide +kernel
theorem dX9_stock_16 : decode cX9_stock 16 = .ok (.ldc2_w 290, 3) := by decide +kernel
theorem dX9_stock_19 : decode cX9_stock 19 = .ok (.ldc2_w 255, 3) := by decide +kernel
theorem dX9_stock_22 : decode cX9_stock 22 = .ok (.invokestatic 106, 3) := by decide +kernel
theorem dX9_stock_25 : decode cX9_stock 25 = .ok (.ifCond .ne 6, 3) := by decide +kernel
theorem dX9_stock_28 : decode cX9_stock 28 = .ok (.bipush (-2), 2) := by decide +kernel
theorem dX9_stock_30 : decode cX9_stock 30 = .ok (.ireturn, 1) := by decide +kernel
theorem dX9_stock_31 : decode cX9_stock 31 = .ok (.aload_n 0, 1) := by decide +kernel
theorem dX9_stock_32 : decode cX9_stock 32 = .ok (.getfield 82, 3) := by decide +kernel
theorem dX9_stock_35 : decode cX9_stock 35 = .ok (.bipush 12, 2) := by decide +kernel
theorem dX9_stock_37 : decode cX9_stock 37 = .ok (.iload_n 1, 1) := by decide +kernel
theorem dX9_stock_38 : decode cX9_stock 38 = .ok (.imul, 1) := by decide +kernel
theorem dX9_stock_39 : decode cX9_stock 39 = .ok (.iload_n 2, 1) := by decide +kernel
theorem dX9_stock_40 : decode cX9_stock 40 = .ok (.iadd, 1) := by decide +kernel
theorem dX9_stock_41 : decode cX9_stock 41 = .ok (.iload_n 3, 1) := by decide +kernel
theorem dX9_stock_42 : decode cX9_stock 42 = .ok (.iastore, 1) := by decide +kernel
theorem dX9_stock_43 : decode cX9_stock 43 = .ok (.aload_n 0, 1) := by decide +kernel
theorem dX9_stock_44 : decode cX9_stock 44 = .ok (.getfield 79, 3) := by decide +kernel
theorem dX9_stock_47 : decode cX9_stock 47 = .ok (.bipush 12, 2) := by decide +kernel
theorem dX9_stock_49 : decode cX9_stock 49 = .ok (.iload_n 1, 1) := by decide +kernel
theorem dX9_stock_50 : decode cX9_stock 50 = .ok (.imul, 1) := by decide +kernel
theorem dX9_stock_51 : decode cX9_stock 51 = .ok (.iload_n 2, 1) := by decide +kernel
theorem dX9_stock_52 : decode cX9_stock 52 = .ok (.iadd, 1) := by decide +kernel
theorem dX9_stock_53 : decode cX9_stock 53 = .ok (.iconst 1, 1) := by decide +kernel
theorem dX9_stock_54 : decode cX9_stock 54 = .ok (.bastore, 1) := by decide +kernel
theorem dX9_stock_55 : decode cX9_stock 55 = .ok (.iconst 1, 1) := by decide +kernel
theorem dX9_stock_56 : decode cX9_stock 56 = .ok (.ireturn, 1) := by decide +kernel
theorem dX9_unstock_0 : decode cX9_unstock 0 = .ok (.iload_n 1, 1) := by decide +kernel
theorem dX9_unstock_1 : decode cX9_unstock 1 = .ok (.invokestatic 278, 3) := by decide +kernel
theorem dX9_unstock_4 : decode cX9_unstock 4 = .ok (.ifCond .eq 10, 3) := by decide +kernel
theorem dX9_unstock_7 : decode cX9_unstock 7 = .ok (.iload_n 2, 1) := by decide +kernel
theorem dX9_unstock_8 : decode cX9_unstock 8 = .ok (.invokestatic 281, 3) := by decide +kernel
theorem dX9_unstock_11 : decode cX9_unstock 11 = .ok (.ifCond .ne 6, 3) := by decide +kernel
theorem dX9_unstock_14 : decode cX9_unstock 14 = .ok (.bipush (-2), 2) := by decide +kernel
theorem dX9_unstock_16 : decode cX9_unstock 16 = .ok (.ireturn, 1) := by decide +kernel
theorem dX9_unstock_17 : decode cX9_unstock 17 = .ok (.aload_n 0, 1) := by decide +kernel
theorem dX9_unstock_18 : decode cX9_unstock 18 = .ok (.getfield 79, 3) := by decide +kernel
theorem dX9_unstock_21 : decode cX9_unstock 21 = .ok (.bipush 12, 2) := by decide +kernel
theorem dX9_unstock_23 : decode cX9_unstock 23 = .ok (.iload_n 1, 1) := by decide +kernel
theorem dX9_unstock_24 : decode cX9_unstock 24 = .ok (.imul, 1) := by decide +kernel
theorem dX9_unstock_25 : decode cX9_unstock 25 = .ok (.iload_n 2, 1) := by decide +kernel
theorem dX9_unstock_26 : decode cX9_unstock 26 = .ok (.iadd, 1) := by decide +kernel
theorem dX9_unstock_27 : decode cX9_unstock 27 = .ok (.baload, 1) := by decide +kernel
theorem dX9_unstock_28 : decode cX9_unstock 28 = .ok (.ifCond .eq 7, 3) := by decide +kernel
theorem dX9_unstock_31 : decode cX9_unstock 31 = .ok (.iconst 1, 1) := by decide +kernel
theorem dX9_unstock_32 : decode cX9_unstock 32 = .ok (.goto 4, 3) := by decide +kernel
theorem dX9_unstock_35 : decode cX9_unstock 35 = .ok (.iconst 0, 1) := by decide +kernel
theorem dX9_unstock_36 : decode cX9_unstock 36 = .ok (.istore_n 3, 1) := by decide +kernel
theorem dX9_unstock_37 : decode cX9_unstock 37 = .ok (.aload_n 0, 1) := by decide +kernel
theorem dX9_unstock_38 : decode cX9_unstock 38 = .ok (.getfield 79, 3) := by decide +kernel
theorem dX9_unstock_41 : decode cX9_unstock 41 = .ok (.bipush 12, 2) := by decide +kernel
theorem dX9_unstock_43 : decode cX9_unstock 43 = .ok (.iload_n 1, 1) := by decide +kernel
theorem dX9_unstock_44 : decode cX9_unstock 44 = .ok (.imul, 1) := by decide +kernel
theorem dX9_unstock_45 : decode cX9_unstock 45 = .ok (.iload_n 2, 1) := by decide +kernel
theorem dX9_unstock_46 : decode cX9_unstock 46 = .ok (.iadd, 1) := by decide +kernel
theorem dX9_unstock_47 : decode cX9_unstock 47 = .ok (.iconst 0, 1) := by decide +kernel
theorem dX9_unstock_48 : decode cX9_unstock 48 = .ok (.bastore, 1) := by decide +kernel
theorem dX9_unstock_49 : decode cX9_unstock 49 = .ok (.iload_n 3, 1) := by decide +kernel
theorem dX9_unstock_50 : decode cX9_unstock 50 = .ok (.ireturn, 1) := by decide +kernel
theorem dX9_dueOf_0 : decode cX9_dueOf 0 = .ok (.iload_n 2, 1) := by decide +kernel
theorem dX9_dueOf_1 : decode cX9_dueOf 1 = .ok (.iconst 1, 1) := by decide +kernel
theorem dX9_dueOf_2 : decode cX9_dueOf 2 = .ok (.isub, 1) := by decide +kernel
theorem dX9_dueOf_3 : decode cX9_dueOf 3 = .ok (.istore_n 3, 1) := by decide +kernel
theorem dX9_dueOf_4 : decode cX9_dueOf 4 = .ok (.aload_n 0, 1) := by decide +kernel
theorem dX9_dueOf_5 : decode cX9_dueOf 5 = .ok (.iload_n 1, 1) := by decide +kernel
theorem dX9_dueOf_6 : decode cX9_dueOf 6 = .ok (.iload_n 2, 1) := by decide +kernel
theorem dX9_dueOf_7 : decode cX9_dueOf 7 = .ok (.invokevirtual 286, 3) := by decide +kernel
theorem dX9_dueOf_10 : decode cX9_dueOf 10 = .ok (.lstore 4, 2) := by decide +kernel
theorem dX9_dueOf_12 : decode cX9_dueOf 12 = .ok (.iload_n 3, 1) := by decide +kernel
theorem dX9_dueOf_13 : decode cX9_dueOf 13 = .ok (.ifCond .lt 34, 3) := by decide +kernel
theorem dX9_dueOf_16 : decode cX9_dueOf 16 = .ok (.aload_n 0, 1) := by decide +kernel
theorem dX9_dueOf_17 : decode cX9_dueOf 17 = .ok (.getfield 79, 3) := by decide +kernel
theorem dX9_dueOf_20 : decode cX9_dueOf 20 = .ok (.bipush 12, 2) := by decide +kernel
theorem dX9_dueOf_22 : decode cX9_dueOf 22 = .ok (.iload_n 1, 1) := by decide +kernel
theorem dX9_dueOf_23 : decode cX9_dueOf 23 = .ok (.imul, 1) := by decide +kernel
theorem dX9_dueOf_24 : decode cX9_dueOf 24 = .ok (.iload_n 3, 1) := by decide +kernel
theorem dX9_dueOf_25 : decode cX9_dueOf 25 = .ok (.iadd, 1) := by decide +kernel
theorem dX9_dueOf_26 : decode cX9_dueOf 26 = .ok (.baload, 1) := by decide +kernel
theorem dX9_dueOf_27 : decode cX9_dueOf 27 = .ok (.ifCond .ne 20, 3) := by decide +kernel
theorem dX9_dueOf_30 : decode cX9_dueOf 30 = .ok (.lload 4, 2) := by decide +kernel
theorem dX9_dueOf_32 : decode cX9_dueOf 32 = .ok (.aload_n 0, 1) := by decide +kernel
theorem dX9_dueOf_33 : decode cX9_dueOf 33 = .ok (.iload_n 1, 1) := by decide +kernel
theorem dX9_dueOf_34 : decode cX9_dueOf 34 = .ok (.iload_n 3, 1) := by decide +kernel
theorem dX9_dueOf_35 : decode cX9_dueOf 35 = .ok (.invokevirtual 286, 3) := by decide +kernel
theorem dX9_dueOf_38 : decode cX9_dueOf 38 = .ok (.ladd, 1) := by decide +kernel
theorem dX9_dueOf_39 : decode cX9_dueOf 39 = .ok (.lstore 4, 2) := by decide +kernel
theorem dX9_dueOf_41 : decode cX9_dueOf 41 = .ok (.iinc 3 (-1), 3) := by decide +kernel
theorem dX9_dueOf_44 : decode cX9_dueOf 44 = .ok (.goto (-32), 3) := by decide +kernel
theorem dX9_dueOf_47 : decode cX9_dueOf 47 = .ok (.iload_n 3, 1) := by decide +kernel
theorem dX9_dueOf_48 : decode cX9_dueOf 48 = .ok (.ifCond .ge 8, 3) := by decide +kernel
theorem dX9_dueOf_51 : decode cX9_dueOf 51 = .ok (.lload 4, 2) := by decide +kernel
theorem dX9_dueOf_53 : decode cX9_dueOf 53 = .ok (.goto 18, 3) := by decide +kernel
theorem dX9_dueOf_56 : decode cX9_dueOf 56 = .ok (.lload 4, 2) := by decide +kernel
theorem dX9_dueOf_58 : decode cX9_dueOf 58 = .ok (.aload_n 0, 1) := by decide +kernel
theorem dX9_dueOf_59 : decode cX9_dueOf 59 = .ok (.getfield 82, 3) := by decide +kernel
theorem dX9_dueOf_62 : decode cX9_dueOf 62 = .ok (.bipush 12, 2) := by decide +kernel
theorem dX9_dueOf_64 : decode cX9_dueOf 64 = .ok (.iload_n 1, 1) := by decide +kernel
theorem dX9_dueOf_65 : decode cX9_dueOf 65 = .ok (.imul, 1) := by decide +kernel
theorem dX9_dueOf_66 : decode cX9_dueOf 66 = .ok (.iload_n 3, 1) := by decide +kernel
theorem dX9_dueOf_67 : decode cX9_dueOf 67 = .ok (.iadd, 1) := by decide +kernel
theorem dX9_dueOf_68 : decode cX9_dueOf 68 = .ok (.iaload, 1) := by decide +kernel
theorem dX9_dueOf_69 : decode cX9_dueOf 69 = .ok (.i2l, 1) := by decide +kernel
theorem dX9_dueOf_70 : decode cX9_dueOf 70 = .ok (.ladd, 1) := by decide +kernel
theorem dX9_dueOf_71 : decode cX9_dueOf 71 = .ok (.lreturn, 1) := by decide +kernel
theorem dX9_due_0 : decode cX9_due 0 = .ok (.iload_n 1, 1) := by decide +kernel
theorem dX9_due_1 : decode cX9_due 1 = .ok (.invokestatic 278, 3) := by decide +kernel
theorem dX9_due_4 : decode cX9_due 4 = .ok (.ifCond .eq 19, 3) := by decide +kernel
theorem dX9_due_7 : decode cX9_due 7 = .ok (.iload_n 2, 1) := by decide +kernel
theorem dX9_due_8 : decode cX9_due 8 = .ok (.invokestatic 281, 3) := by decide +kernel
theorem dX9_due_11 : decode cX9_due 11 = .ok (.ifCond .eq 12, 3) := by decide +kernel
theorem dX9_due_14 : decode cX9_due 14 = .ok (.aload_n 0, 1) := by decide +kernel
theorem dX9_due_15 : decode cX9_due 15 = .ok (.iload_n 1, 1) := by decide +kernel
theorem dX9_due_16 : decode cX9_due 16 = .ok (.iload_n 2, 1) := by decide +kernel
theorem dX9_due_17 : decode cX9_due 17 = .ok (.invokevirtual 292, 3) := by decide +kernel
theorem dX9_due_20 : decode cX9_due 20 = .ok (.goto 6, 3) := by decide +kernel
theorem dX9_due_23 : decode cX9_due 23 = .ok (.ldc2_w 189, 3) := by decide +kernel
theorem dX9_due_26 : decode cX9_due 26 = .ok (.lreturn, 1) := by decide +kernel
theorem dX9_off_0 : decode cX9_off 0 = .ok (.iload_n 1, 1) := by decide +kernel
theorem dX9_off_1 : decode cX9_off 1 = .ok (.invokestatic 278, 3) := by decide +kernel
theorem dX9_off_4 : decode cX9_off 4 = .ok (.ifCond .eq 10, 3) := by decide +kernel
theorem dX9_off_7 : decode cX9_off 7 = .ok (.iload_n 2, 1) := by decide +kernel
theorem dX9_off_8 : decode cX9_off 8 = .ok (.invokestatic 281, 3) := by decide +kernel
theorem dX9_off_11 : decode cX9_off 11 = .ok (.ifCond .ne 7, 3) := by decide +kernel
theorem dX9_off_14 : decode cX9_off 14 = .ok (.ldc2_w 189, 3) := by decide +kernel
theorem dX9_off_17 : decode cX9_off 17 = .ok (.lreturn, 1) := by decide +kernel
theorem dX9_off_18 : decode cX9_off 18 = .ok (.bipush 12, 2) := by decide +kernel
theorem dX9_off_20 : decode cX9_off 20 = .ok (.iload_n 1, 1) := by decide +kernel
theorem dX9_off_21 : decode cX9_off 21 = .ok (.imul, 1) := by decide +kernel
theorem dX9_off_22 : decode cX9_off 22 = .ok (.iload_n 2, 1) := by decide +kernel
theorem dX9_off_23 : decode cX9_off 23 = .ok (.iadd, 1) := by decide +kernel
theorem dX9_off_24 : decode cX9_off 24 = .ok (.istore_n 3, 1) := by decide +kernel
theorem dX9_off_25 : decode cX9_off 25 = .ok (.aload_n 0, 1) := by decide +kernel
theorem dX9_off_26 : decode cX9_off 26 = .ok (.getfield 79, 3) := by decide +kernel
theorem dX9_off_29 : decode cX9_off 29 = .ok (.iload_n 3, 1) := by decide +kernel
theorem dX9_off_30 : decode cX9_off 30 = .ok (.baload, 1) := by decide +kernel
theorem dX9_off_31 : decode cX9_off 31 = .ok (.ifCond .eq 20, 3) := by decide +kernel
theorem dX9_off_34 : decode cX9_off 34 = .ok (.aload_n 0, 1) := by decide +kernel
theorem dX9_off_35 : decode cX9_off 35 = .ok (.getfield 82, 3) := by decide +kernel
theorem dX9_off_38 : decode cX9_off 38 = .ok (.iload_n 3, 1) := by decide +kernel
theorem dX9_off_39 : decode cX9_off 39 = .ok (.iaload, 1) := by decide +kernel
theorem dX9_off_40 : decode cX9_off 40 = .ok (.i2l, 1) := by decide +kernel
theorem dX9_off_41 : decode cX9_off 41 = .ok (.aload_n 0, 1) := by decide +kernel
theorem dX9_off_42 : decode cX9_off 42 = .ok (.iload_n 1, 1) := by decide +kernel
theorem dX9_off_43 : decode cX9_off 43 = .ok (.iload_n 2, 1) := by decide +kernel
theorem dX9_off_44 : decode cX9_off 44 = .ok (.invokevirtual 292, 3) := by decide +kernel
theorem dX9_off_47 : decode cX9_off 47 = .ok (.lsub, 1) := by decide +kernel
theorem dX9_off_48 : decode cX9_off 48 = .ok (.goto 6, 3) := by decide +kernel
theorem dX9_off_51 : decode cX9_off 51 = .ok (.ldc2_w 191, 3) := by decide +kernel
theorem dX9_off_54 : decode cX9_off 54 = .ok (.lreturn, 1) := by decide +kernel
theorem dX9_isLaw_0 : decode cX9_isLaw 0 = .ok (.iload_n 0, 1) := by decide +kernel
theorem dX9_isLaw_1 : decode cX9_isLaw 1 = .ok (.i2l, 1) := by decide +kernel
theorem dX9_isLaw_2 : decode cX9_isLaw 2 = .ok (.lconst 0, 1) := by decide +kernel
theorem dX9_isLaw_3 : decode cX9_isLaw 3 = .ok (.ldc2_w 110, 3) := by decide +kernel
theorem dX9_isLaw_6 : decode cX9_isLaw 6 = .ok (.invokestatic 106, 3) := by decide +kernel
theorem dX9_isLaw_9 : decode cX9_isLaw 9 = .ok (.ireturn, 1) := by decide +kernel
theorem dX9_type_0 : decode cX9_type 0 = .ok (.iload_n 1, 1) := by decide +kernel
theorem dX9_type_1 : decode cX9_type 1 = .ok (.invokestatic 295, 3) := by decide +kernel
theorem dX9_type_4 : decode cX9_type 4 = .ok (.ifCond .eq 15, 3) := by decide +kernel
theorem dX9_type_7 : decode cX9_type 7 = .ok (.iload_n 2, 1) := by decide +kernel
theorem dX9_type_8 : decode cX9_type 8 = .ok (.i2l, 1) := by decide +kernel
theorem dX9_type_9 : decode cX9_type 9 = .ok (.lconst 0, 1) := by decide +kernel
theorem dX9_type_10 : decode cX9_type 10 = .ok (.ldc2_w 298, 3) := by decide +kernel
theorem dX9_type_13 : decode cX9_type 13 = .ok (.invokestatic 106, 3) := by decide +kernel
theorem dX9_type_16 : decode cX9_type 16 = .ok (.ifCond .ne 6, 3) := by decide +kernel
theorem dX9_type_19 : decode cX9_type 19 = .ok (.bipush (-2), 2) := by decide +kernel
theorem dX9_type_21 : decode cX9_type 21 = .ok (.ireturn, 1) := by decide +kernel
theorem dX9_type_22 : decode cX9_type 22 = .ok (.aload_n 0, 1) := by decide +kernel
theorem dX9_type_23 : decode cX9_type 23 = .ok (.getfield 85, 3) := by decide +kernel
theorem dX9_type_26 : decode cX9_type 26 = .ok (.iload_n 1, 1) := by decide +kernel
theorem dX9_type_27 : decode cX9_type 27 = .ok (.iaload, 1) := by decide +kernel
theorem dX9_type_28 : decode cX9_type 28 = .ok (.bipush 60, 2) := by decide +kernel
theorem dX9_type_30 : decode cX9_type 30 = .ok (.if_icmp .ne 6, 3) := by decide +kernel
theorem dX9_type_33 : decode cX9_type 33 = .ok (.bipush (-4), 2) := by decide +kernel
theorem dX9_type_35 : decode cX9_type 35 = .ok (.ireturn, 1) := by decide +kernel
theorem dX9_type_36 : decode cX9_type 36 = .ok (.aload_n 0, 1) := by decide +kernel
theorem dX9_type_37 : decode cX9_type 37 = .ok (.getfield 88, 3) := by decide +kernel
theorem dX9_type_40 : decode cX9_type 40 = .ok (.bipush 60, 2) := by decide +kernel
theorem dX9_type_42 : decode cX9_type 42 = .ok (.iload_n 1, 1) := by decide +kernel
theorem dX9_type_43 : decode cX9_type 43 = .ok (.imul, 1) := by decide +kernel
theorem dX9_type_44 : decode cX9_type 44 = .ok (.aload_n 0, 1) := by decide +kernel
theorem dX9_type_45 : decode cX9_type 45 = .ok (.getfield 85, 3) := by decide +kernel
theorem dX9_type_48 : decode cX9_type 48 = .ok (.iload_n 1, 1) := by decide +kernel
theorem dX9_type_49 : decode cX9_type 49 = .ok (.iaload, 1) := by decide +kernel
theorem dX9_type_50 : decode cX9_type 50 = .ok (.iadd, 1) := by decide +kernel
theorem dX9_type_51 : decode cX9_type 51 = .ok (.iload_n 2, 1) := by decide +kernel
theorem dX9_type_52 : decode cX9_type 52 = .ok (.iastore, 1) := by decide +kernel
theorem dX9_type_53 : decode cX9_type 53 = .ok (.aload_n 0, 1) := by decide +kernel
theorem dX9_type_54 : decode cX9_type 54 = .ok (.getfield 85, 3) := by decide +kernel
theorem dX9_type_57 : decode cX9_type 57 = .ok (.iload_n 1, 1) := by decide +kernel
theorem dX9_type_58 : decode cX9_type 58 = .ok (.dup2, 1) := by decide +kernel
theorem dX9_type_59 : decode cX9_type 59 = .ok (.iaload, 1) := by decide +kernel
theorem dX9_type_60 : decode cX9_type 60 = .ok (.iconst 1, 1) := by decide +kernel
theorem dX9_type_61 : decode cX9_type 61 = .ok (.iadd, 1) := by decide +kernel
theorem dX9_type_62 : decode cX9_type 62 = .ok (.iastore, 1) := by decide +kernel
theorem dX9_type_63 : decode cX9_type 63 = .ok (.aload_n 0, 1) := by decide +kernel
theorem dX9_type_64 : decode cX9_type 64 = .ok (.getfield 85, 3) := by decide +kernel
theorem dX9_type_67 : decode cX9_type 67 = .ok (.iload_n 1, 1) := by decide +kernel
theorem dX9_type_68 : decode cX9_type 68 = .ok (.iaload, 1) := by decide +kernel
theorem dX9_type_69 : decode cX9_type 69 = .ok (.ireturn, 1) := by decide +kernel
theorem dX9_repeal_0 : decode cX9_repeal 0 = .ok (.iload_n 1, 1) := by decide +kernel
theorem dX9_repeal_1 : decode cX9_repeal 1 = .ok (.invokestatic 295, 3) := by decide +kernel
theorem dX9_repeal_4 : decode cX9_repeal 4 = .ok (.ifCond .ne 6, 3) := by decide +kernel
theorem dX9_repeal_7 : decode cX9_repeal 7 = .ok (.bipush (-2), 2) := by decide +kernel
theorem dX9_repeal_9 : decode cX9_repeal 9 = .ok (.ireturn, 1) := by decide +kernel
theorem dX9_repeal_10 : decode cX9_repeal 10 = .ok (.aload_n 0, 1) := by decide +kernel
theorem dX9_repeal_11 : decode cX9_repeal 11 = .ok (.getfield 85, 3) := by decide +kernel
theorem dX9_repeal_14 : decode cX9_repeal 14 = .ok (.iload_n 1, 1) := by decide +kernel
theorem dX9_repeal_15 : decode cX9_repeal 15 = .ok (.iaload, 1) := by decide +kernel
theorem dX9_repeal_16 : decode cX9_repeal 16 = .ok (.istore_n 2, 1) := by decide +kernel
theorem dX9_repeal_17 : decode cX9_repeal 17 = .ok (.aload_n 0, 1) := by decide +kernel
theorem dX9_repeal_18 : decode cX9_repeal 18 = .ok (.getfield 85, 3) := by decide +kernel
theorem dX9_repeal_21 : decode cX9_repeal 21 = .ok (.iload_n 1, 1) := by decide +kernel
theorem dX9_repeal_22 : decode cX9_repeal 22 = .ok (.iconst 0, 1) := by decide +kernel
theorem dX9_repeal_23 : decode cX9_repeal 23 = .ok (.iastore, 1) := by decide +kernel
theorem dX9_repeal_24 : decode cX9_repeal 24 = .ok (.iload_n 2, 1) := by decide +kernel
theorem dX9_repeal_25 : decode cX9_repeal 25 = .ok (.ireturn, 1) := by decide +kernel
theorem dX9_byteNow_0 : decode cX9_byteNow 0 = .ok (.aload_n 0, 1) := by decide +kernel
theorem dX9_byteNow_1 : decode cX9_byteNow 1 = .ok (.getfield 300, 3) := by decide +kernel
theorem dX9_byteNow_4 : decode cX9_byteNow 4 = .ok (.aload_n 0, 1) := by decide +kernel
theorem dX9_byteNow_5 : decode cX9_byteNow 5 = .ok (.getfield 85, 3) := by decide +kernel
theorem dX9_byteNow_8 : decode cX9_byteNow 8 = .ok (.aload_n 0, 1) := by decide +kernel
theorem dX9_byteNow_9 : decode cX9_byteNow 9 = .ok (.getfield 303, 3) := by decide +kernel
theorem dX9_byteNow_12 : decode cX9_byteNow 12 = .ok (.iaload, 1) := by decide +kernel
theorem dX9_byteNow_13 : decode cX9_byteNow 13 = .ok (.if_icmp .ge 23, 3) := by decide +kernel
theorem dX9_byteNow_16 : decode cX9_byteNow 16 = .ok (.aload_n 0, 1) := by decide +kernel
theorem dX9_byteNow_17 : decode cX9_byteNow 17 = .ok (.getfield 88, 3) := by decide +kernel
theorem dX9_byteNow_20 : decode cX9_byteNow 20 = .ok (.bipush 60, 2) := by decide +kernel
theorem dX9_byteNow_22 : decode cX9_byteNow 22 = .ok (.aload_n 0, 1) := by decide +kernel
theorem dX9_byteNow_23 : decode cX9_byteNow 23 = .ok (.getfield 303, 3) := by decide +kernel
theorem dX9_byteNow_26 : decode cX9_byteNow 26 = .ok (.imul, 1) := by decide +kernel
theorem dX9_byteNow_27 : decode cX9_byteNow 27 = .ok (.aload_n 0, 1) := by decide +kernel
theorem dX9_byteNow_28 : decode cX9_byteNow 28 = .ok (.getfield 300, 3) := by decide +kernel
theorem dX9_byteNow_31 : decode cX9_byteNow 31 = .ok (.iadd, 1) := by decide +kernel
theorem dX9_byteNow_32 : decode cX9_byteNow 32 = .ok (.iaload, 1) := by decide +kernel
theorem dX9_byteNow_33 : decode cX9_byteNow 33 = .ok (.goto 4, 3) := by decide +kernel
theorem dX9_byteNow_36 : decode cX9_byteNow 36 = .ok (.iconst (-1), 1) := by decide +kernel
theorem dX9_byteNow_37 : decode cX9_byteNow 37 = .ok (.ireturn, 1) := by decide +kernel
theorem dX9_isFigure_0 : decode cX9_isFigure 0 = .ok (.aload_n 0, 1) := by decide +kernel
theorem dX9_isFigure_1 : decode cX9_isFigure 1 = .ok (.invokevirtual 306, 3) := by decide +kernel
theorem dX9_isFigure_4 : decode cX9_isFigure 4 = .ok (.bipush 48, 2) := by decide +kernel
theorem dX9_isFigure_6 : decode cX9_isFigure 6 = .ok (.if_icmp .lt 16, 3) := by decide +kernel
theorem dX9_isFigure_9 : decode cX9_isFigure 9 = .ok (.aload_n 0, 1) := by decide +kernel
theorem dX9_isFigure_10 : decode cX9_isFigure 10 = .ok (.invokevirtual 306, 3) := by decide +kernel
theorem dX9_isFigure_13 : decode cX9_isFigure 13 = .ok (.bipush 57, 2) := by decide +kernel
theorem dX9_isFigure_15 : decode cX9_isFigure 15 = .ok (.if_icmp .gt 7, 3) := by decide +kernel
theorem dX9_isFigure_18 : decode cX9_isFigure 18 = .ok (.iconst 1, 1) := by decide +kernel
theorem dX9_isFigure_19 : decode cX9_isFigure 19 = .ok (.goto 4, 3) := by decide +kernel
theorem dX9_isFigure_22 : decode cX9_isFigure 22 = .ok (.iconst 0, 1) := by decide +kernel
theorem dX9_isFigure_23 : decode cX9_isFigure 23 = .ok (.ireturn, 1) := by decide +kernel
theorem dX9_cell_0 : decode cX9_cell 0 = .ok (.aload_n 0, 1) := by decide +kernel
theorem dX9_cell_1 : decode cX9_cell 1 = .ok (.getfield 300, 3) := by decide +kernel
theorem dX9_cell_4 : decode cX9_cell 4 = .ok (.istore_n 1, 1) := by decide +kernel
theorem dX9_cell_5 : decode cX9_cell 5 = .ok (.iconst 0, 1) := by decide +kernel
theorem dX9_cell_6 : decode cX9_cell 6 = .ok (.istore_n 2, 1) := by decide +kernel
theorem dX9_cell_7 : decode cX9_cell 7 = .ok (.iconst 0, 1) := by decide +kernel
theorem dX9_cell_8 : decode cX9_cell 8 = .ok (.istore_n 3, 1) := by decide +kernel
theorem dX9_cell_9 : decode cX9_cell 9 = .ok (.iload_n 3, 1) := by decide +kernel
theorem dX9_cell_10 : decode cX9_cell 10 = .ok (.iconst 3, 1) := by decide +kernel
theorem dX9_cell_11 : decode cX9_cell 11 = .ok (.if_icmp .ge 49, 3) := by decide +kernel
theorem dX9_cell_14 : decode cX9_cell 14 = .ok (.aload_n 0, 1) := by decide +kernel
theorem dX9_cell_15 : decode cX9_cell 15 = .ok (.invokevirtual 309, 3) := by decide +kernel
theorem dX9_cell_18 : decode cX9_cell 18 = .ok (.ifCond .ne 13, 3) := by decide +kernel
theorem dX9_cell_21 : decode cX9_cell 21 = .ok (.aload_n 0, 1) := by decide +kernel
theorem dX9_cell_22 : decode cX9_cell 22 = .ok (.aload_n 0, 1) := by decide +kernel
theorem dX9_cell_23 : decode cX9_cell 23 = .ok (.getfield 300, 3) := by decide +kernel
theorem dX9_cell_26 : decode cX9_cell 26 = .ok (.putfield 313, 3) := by decide +kernel
theorem dX9_cell_29 : decode cX9_cell 29 = .ok (.lconst 0, 1) := by decide +kernel
theorem dX9_cell_30 : decode cX9_cell 30 = .ok (.lreturn, 1) := by decide +kernel
theorem dX9_cell_31 : decode cX9_cell 31 = .ok (.bipush 10, 2) := by decide +kernel
theorem dX9_cell_33 : decode cX9_cell 33 = .ok (.iload_n 2, 1) := by decide +kernel
theorem dX9_cell_34 : decode cX9_cell 34 = .ok (.imul, 1) := by decide +kernel
theorem dX9_cell_35 : decode cX9_cell 35 = .ok (.aload_n 0, 1) := by decide +kernel
theorem dX9_cell_36 : decode cX9_cell 36 = .ok (.invokevirtual 306, 3) := by decide +kernel
theorem dX9_cell_39 : decode cX9_cell 39 = .ok (.iadd, 1) := by decide +kernel
theorem dX9_cell_40 : decode cX9_cell 40 = .ok (.bipush 48, 2) := by decide +kernel
theorem dX9_cell_42 : decode cX9_cell 42 = .ok (.isub, 1) := by decide +kernel
theorem dX9_cell_43 : decode cX9_cell 43 = .ok (.istore_n 2, 1) := by decide +kernel
theorem dX9_cell_44 : decode cX9_cell 44 = .ok (.aload_n 0, 1) := by decide +kernel
theorem dX9_cell_45 : decode cX9_cell 45 = .ok (.dup, 1) := by decide +kernel
theorem dX9_cell_46 : decode cX9_cell 46 = .ok (.getfield 300, 3) := by decide +kernel
theorem dX9_cell_49 : decode cX9_cell 49 = .ok (.iconst 1, 1) := by decide +kernel
theorem dX9_cell_50 : decode cX9_cell 50 = .ok (.iadd, 1) := by decide +kernel
theorem dX9_cell_51 : decode cX9_cell 51 = .ok (.putfield 300, 3) := by decide +kernel
theorem dX9_cell_54 : decode cX9_cell 54 = .ok (.iinc 3 1, 3) := by decide +kernel
theorem dX9_cell_57 : decode cX9_cell 57 = .ok (.goto (-48), 3) := by decide +kernel
theorem dX9_cell_60 : decode cX9_cell 60 = .ok (.iload_n 2, 1) := by decide +kernel
theorem dX9_cell_61 : decode cX9_cell 61 = .ok (.bipush 100, 2) := by decide +kernel
theorem dX9_cell_63 : decode cX9_cell 63 = .ok (.idiv, 1) := by decide +kernel
theorem dX9_cell_64 : decode cX9_cell 64 = .ok (.iload_n 2, 1) := by decide +kernel
theorem dX9_cell_65 : decode cX9_cell 65 = .ok (.bipush 10, 2) := by decide +kernel
theorem dX9_cell_67 : decode cX9_cell 67 = .ok (.idiv, 1) := by decide +kernel
theorem dX9_cell_68 : decode cX9_cell 68 = .ok (.bipush 10, 2) := by decide +kernel
theorem dX9_cell_70 : decode cX9_cell 70 = .ok (.irem, 1) := by decide +kernel
theorem dX9_cell_71 : decode cX9_cell 71 = .ok (.iload_n 2, 1) := by decide +kernel
theorem dX9_cell_72 : decode cX9_cell 72 = .ok (.bipush 10, 2) := by decide +kernel
theorem dX9_cell_74 : decode cX9_cell 74 = .ok (.irem, 1) := by decide +kernel
theorem dX9_cell_75 : decode cX9_cell 75 = .ok (.invokestatic 118, 3) := by decide +kernel
theorem dX9_cell_78 : decode cX9_cell 78 = .ok (.ifCond .ne 10, 3) := by decide +kernel
theorem dX9_cell_81 : decode cX9_cell 81 = .ok (.aload_n 0, 1) := by decide +kernel
theorem dX9_cell_82 : decode cX9_cell 82 = .ok (.iload_n 1, 1) := by decide +kernel
theorem dX9_cell_83 : decode cX9_cell 83 = .ok (.putfield 313, 3) := by decide +kernel
theorem dX9_cell_86 : decode cX9_cell 86 = .ok (.lconst 0, 1) := by decide +kernel
theorem dX9_cell_87 : decode cX9_cell 87 = .ok (.lreturn, 1) := by decide +kernel
theorem dX9_cell_88 : decode cX9_cell 88 = .ok (.aload_n 0, 1) := by decide +kernel
theorem dX9_cell_89 : decode cX9_cell 89 = .ok (.getfield 58, 3) := by decide +kernel
theorem dX9_cell_92 : decode cX9_cell 92 = .ok (.iload_n 2, 1) := by decide +kernel
theorem dX9_cell_93 : decode cX9_cell 93 = .ok (.bipush 100, 2) := by decide +kernel
theorem dX9_cell_95 : decode cX9_cell 95 = .ok (.idiv, 1) := by decide +kernel
theorem dX9_cell_96 : decode cX9_cell 96 = .ok (.iload_n 2, 1) := by decide +kernel
theorem dX9_cell_97 : decode cX9_cell 97 = .ok (.bipush 10, 2) := by decide +kernel
theorem dX9_cell_99 : decode cX9_cell 99 = .ok (.idiv, 1) := by decide +kernel
theorem dX9_cell_100 : decode cX9_cell 100 = .ok (.bipush 10, 2) := by decide +kernel
theorem dX9_cell_102 : decode cX9_cell 102 = .ok (.irem, 1) := by decide +kernel
theorem dX9_cell_103 : decode cX9_cell 103 = .ok (.iload_n 2, 1) := by decide +kernel
theorem dX9_cell_104 : decode cX9_cell 104 = .ok (.bipush 10, 2) := by decide +kernel
theorem dX9_cell_106 : decode cX9_cell 106 = .ok (.irem, 1) := by decide +kernel
theorem dX9_cell_107 : decode cX9_cell 107 = .ok (.aload_n 0, 1) := by decide +kernel
theorem dX9_cell_108 : decode cX9_cell 108 = .ok (.getfield 316, 3) := by decide +kernel
theorem dX9_cell_111 : decode cX9_cell 111 = .ok (.invokestatic 124, 3) := by decide +kernel
theorem dX9_cell_114 : decode cX9_cell 114 = .ok (.laload, 1) := by decide +kernel
theorem dX9_cell_115 : decode cX9_cell 115 = .ok (.lreturn, 1) := by decide +kernel
theorem dX9_term_0 : decode cX9_term 0 = .ok (.aload_n 0, 1) := by decide +kernel
theorem dX9_term_1 : decode cX9_term 1 = .ok (.invokevirtual 306, 3) := by decide +kernel
theorem dX9_term_4 : decode cX9_term 4 = .ok (.bipush 99, 2) := by decide +kernel
theorem dX9_term_6 : decode cX9_term 6 = .ok (.if_icmp .ne 18, 3) := by decide +kernel
theorem dX9_term_9 : decode cX9_term 9 = .ok (.aload_n 0, 1) := by decide +kernel
theorem dX9_term_10 : decode cX9_term 10 = .ok (.dup, 1) := by decide +kernel
theorem dX9_term_11 : decode cX9_term 11 = .ok (.getfield 300, 3) := by decide +kernel
theorem dX9_term_14 : decode cX9_term 14 = .ok (.iconst 1, 1) := by decide +kernel
theorem dX9_term_15 : decode cX9_term 15 = .ok (.iadd, 1) := by decide +kernel
theorem dX9_term_16 : decode cX9_term 16 = .ok (.putfield 300, 3) := by decide +kernel
theorem dX9_term_19 : decode cX9_term 19 = .ok (.aload_n 0, 1) := by decide +kernel
theorem dX9_term_20 : decode cX9_term 20 = .ok (.invokevirtual 319, 3) := by decide +kernel
theorem dX9_term_23 : decode cX9_term 23 = .ok (.lreturn, 1) := by decide +kernel
theorem dX9_term_24 : decode cX9_term 24 = .ok (.aload_n 0, 1) := by decide +kernel
theorem dX9_term_25 : decode cX9_term 25 = .ok (.getfield 300, 3) := by decide +kernel
theorem dX9_term_28 : decode cX9_term 28 = .ok (.istore_n 1, 1) := by decide +kernel
theorem dX9_term_29 : decode cX9_term 29 = .ok (.lconst 0, 1) := by decide +kernel
theorem dX9_term_30 : decode cX9_term 30 = .ok (.lstore_n 2, 1) := by decide +kernel
theorem dX9_term_31 : decode cX9_term 31 = .ok (.aload_n 0, 1) := by decide +kernel
theorem dX9_term_32 : decode cX9_term 32 = .ok (.getfield 300, 3) := by decide +kernel
theorem dX9_term_35 : decode cX9_term 35 = .ok (.iload_n 1, 1) := by decide +kernel
theorem dX9_term_36 : decode cX9_term 36 = .ok (.bipush 6, 2) := by decide +kernel
theorem dX9_term_38 : decode cX9_term 38 = .ok (.iadd, 1) := by decide +kernel
theorem dX9_term_39 : decode cX9_term 39 = .ok (.if_icmp .ge 39, 3) := by decide +kernel
theorem dX9_term_42 : decode cX9_term 42 = .ok (.aload_n 0, 1) := by decide +kernel
theorem dX9_term_43 : decode cX9_term 43 = .ok (.invokevirtual 309, 3) := by decide +kernel
theorem dX9_term_46 : decode cX9_term 46 = .ok (.ifCond .eq 32, 3) := by decide +kernel
theorem dX9_term_49 : decode cX9_term 49 = .ok (.ldc2_w 237, 3) := by decide +kernel
theorem dX9_term_52 : decode cX9_term 52 = .ok (.lload_n 2, 1) := by decide +kernel
theorem dX9_term_53 : decode cX9_term 53 = .ok (.lmul, 1) := by decide +kernel
theorem dX9_term_54 : decode cX9_term 54 = .ok (.aload_n 0, 1) := by decide +kernel
theorem dX9_term_55 : decode cX9_term 55 = .ok (.invokevirtual 306, 3) := by decide +kernel
theorem dX9_term_58 : decode cX9_term 58 = .ok (.i2l, 1) := by decide +kernel
theorem dX9_term_59 : decode cX9_term 59 = .ok (.ladd, 1) := by decide +kernel
theorem dX9_term_60 : decode cX9_term 60 = .ok (.ldc2_w 323, 3) := by decide +kernel
theorem dX9_term_63 : decode cX9_term 63 = .ok (.lsub, 1) := by decide +kernel
theorem dX9_term_64 : decode cX9_term 64 = .ok (.lstore_n 2, 1) := by decide +kernel
theorem dX9_term_65 : decode cX9_term 65 = .ok (.aload_n 0, 1) := by decide +kernel
theorem dX9_term_66 : decode cX9_term 66 = .ok (.dup, 1) := by decide +kernel
theorem dX9_term_67 : decode cX9_term 67 = .ok (.getfield 300, 3) := by decide +kernel
theorem dX9_term_70 : decode cX9_term 70 = .ok (.iconst 1, 1) := by decide +kernel
theorem dX9_term_71 : decode cX9_term 71 = .ok (.iadd, 1) := by decide +kernel
theorem dX9_term_72 : decode cX9_term 72 = .ok (.putfield 300, 3) := by decide +kernel
theorem dX9_term_75 : decode cX9_term 75 = .ok (.goto (-44), 3) := by decide +kernel
theorem dX9_term_78 : decode cX9_term 78 = .ok (.aload_n 0, 1) := by decide +kernel
theorem dX9_term_79 : decode cX9_term 79 = .ok (.getfield 300, 3) := by decide +kernel
theorem dX9_term_82 : decode cX9_term 82 = .ok (.iload_n 1, 1) := by decide +kernel
theorem dX9_term_83 : decode cX9_term 83 = .ok (.if_icmp .ne 13, 3) := by decide +kernel
theorem dX9_term_86 : decode cX9_term 86 = .ok (.aload_n 0, 1) := by decide +kernel
theorem dX9_term_87 : decode cX9_term 87 = .ok (.aload_n 0, 1) := by decide +kernel
theorem dX9_term_88 : decode cX9_term 88 = .ok (.getfield 300, 3) := by decide +kernel
theorem dX9_term_91 : decode cX9_term 91 = .ok (.putfield 313, 3) := by decide +kernel
theorem dX9_term_94 : decode cX9_term 94 = .ok (.lconst 0, 1) := by decide +kernel
theorem dX9_term_95 : decode cX9_term 95 = .ok (.lreturn, 1) := by decide +kernel
theorem dX9_term_96 : decode cX9_term 96 = .ok (.aload_n 0, 1) := by decide +kernel
theorem dX9_term_97 : decode cX9_term 97 = .ok (.invokevirtual 306, 3) := by decide +kernel
theorem dX9_term_100 : decode cX9_term 100 = .ok (.bipush 42, 2) := by decide +kernel
theorem dX9_term_102 : decode cX9_term 102 = .ok (.if_icmp .eq 5, 3) := by decide +kernel
theorem dX9_term_105 : decode cX9_term 105 = .ok (.lload_n 2, 1) := by decide +kernel
theorem dX9_term_106 : decode cX9_term 106 = .ok (.lreturn, 1) := by decide +kernel
theorem dX9_term_107 : decode cX9_term 107 = .ok (.aload_n 0, 1) := by decide +kernel
theorem dX9_term_108 : decode cX9_term 108 = .ok (.dup, 1) := by decide +kernel
theorem dX9_term_109 : decode cX9_term 109 = .ok (.getfield 300, 3) := by decide +kernel
theorem dX9_term_112 : decode cX9_term 112 = .ok (.iconst 1, 1) := by decide +kernel
theorem dX9_term_113 : decode cX9_term 113 = .ok (.iadd, 1) := by decide +kernel
theorem dX9_term_114 : decode cX9_term 114 = .ok (.putfield 300, 3) := by decide +kernel
theorem dX9_term_117 : decode cX9_term 117 = .ok (.aload_n 0, 1) := by decide +kernel
theorem dX9_term_118 : decode cX9_term 118 = .ok (.invokevirtual 306, 3) := by decide +kernel
theorem dX9_term_121 : decode cX9_term 121 = .ok (.bipush 99, 2) := by decide +kernel
theorem dX9_term_123 : decode cX9_term 123 = .ok (.if_icmp .eq 13, 3) := by decide +kernel
theorem dX9_term_126 : decode cX9_term 126 = .ok (.aload_n 0, 1) := by decide +kernel
theorem dX9_term_127 : decode cX9_term 127 = .ok (.aload_n 0, 1) := by decide +kernel
theorem dX9_term_128 : decode cX9_term 128 = .ok (.getfield 300, 3) := by decide +kernel
theorem dX9_term_131 : decode cX9_term 131 = .ok (.putfield 313, 3) := by decide +kernel
theorem dX9_term_134 : decode cX9_term 134 = .ok (.lconst 0, 1) := by decide +kernel
theorem dX9_term_135 : decode cX9_term 135 = .ok (.lreturn, 1) := by decide +kernel
theorem dX9_term_136 : decode cX9_term 136 = .ok (.aload_n 0, 1) := by decide +kernel
theorem dX9_term_137 : decode cX9_term 137 = .ok (.dup, 1) := by decide +kernel
theorem dX9_term_138 : decode cX9_term 138 = .ok (.getfield 300, 3) := by decide +kernel
theorem dX9_term_141 : decode cX9_term 141 = .ok (.iconst 1, 1) := by decide +kernel
theorem dX9_term_142 : decode cX9_term 142 = .ok (.iadd, 1) := by decide +kernel
theorem dX9_term_143 : decode cX9_term 143 = .ok (.putfield 300, 3) := by decide +kernel
theorem dX9_term_146 : decode cX9_term 146 = .ok (.lload_n 2, 1) := by decide +kernel
theorem dX9_term_147 : decode cX9_term 147 = .ok (.aload_n 0, 1) := by decide +kernel
theorem dX9_term_148 : decode cX9_term 148 = .ok (.invokevirtual 319, 3) := by decide +kernel
theorem dX9_term_151 : decode cX9_term 151 = .ok (.lmul, 1) := by decide +kernel
theorem dX9_term_152 : decode cX9_term 152 = .ok (.lreturn, 1) := by decide +kernel
theorem dX9_sum_0 : decode cX9_sum 0 = .ok (.aload_n 0, 1) := by decide +kernel
theorem dX9_sum_1 : decode cX9_sum 1 = .ok (.invokevirtual 325, 3) := by decide +kernel
theorem dX9_sum_4 : decode cX9_sum 4 = .ok (.lstore_n 1, 1) := by decide +kernel
theorem dX9_sum_5 : decode cX9_sum 5 = .ok (.aload_n 0, 1) := by decide +kernel
theorem dX9_sum_6 : decode cX9_sum 6 = .ok (.getfield 313, 3) := by decide +kernel
theorem dX9_sum_9 : decode cX9_sum 9 = .ok (.iconst (-1), 1) := by decide +kernel
theorem dX9_sum_10 : decode cX9_sum 10 = .ok (.if_icmp .ne 59, 3) := by decide +kernel
theorem dX9_sum_13 : decode cX9_sum 13 = .ok (.aload_n 0, 1) := by decide +kernel
theorem dX9_sum_14 : decode cX9_sum 14 = .ok (.invokevirtual 306, 3) := by decide +kernel
theorem dX9_sum_17 : decode cX9_sum 17 = .ok (.bipush 43, 2) := by decide +kernel
theorem dX9_sum_19 : decode cX9_sum 19 = .ok (.if_icmp .eq 12, 3) := by decide +kernel
theorem dX9_sum_22 : decode cX9_sum 22 = .ok (.aload_n 0, 1) := by decide +kernel
theorem dX9_sum_23 : decode cX9_sum 23 = .ok (.invokevirtual 306, 3) := by decide +kernel
theorem dX9_sum_26 : decode cX9_sum 26 = .ok (.bipush 45, 2) := by decide +kernel
theorem dX9_sum_28 : decode cX9_sum 28 = .ok (.if_icmp .ne 41, 3) := by decide +kernel
theorem dX9_sum_31 : decode cX9_sum 31 = .ok (.aload_n 0, 1) := by decide +kernel
theorem dX9_sum_32 : decode cX9_sum 32 = .ok (.invokevirtual 306, 3) := by decide +kernel
theorem dX9_sum_35 : decode cX9_sum 35 = .ok (.bipush 43, 2) := by decide +kernel
theorem dX9_sum_37 : decode cX9_sum 37 = .ok (.if_icmp .ne 7, 3) := by decide +kernel
theorem dX9_sum_40 : decode cX9_sum 40 = .ok (.iconst 1, 1) := by decide +kernel
theorem dX9_sum_41 : decode cX9_sum 41 = .ok (.goto 4, 3) := by decide +kernel
theorem dX9_sum_44 : decode cX9_sum 44 = .ok (.iconst (-1), 1) := by decide +kernel
theorem dX9_sum_45 : decode cX9_sum 45 = .ok (.istore_n 3, 1) := by decide +kernel
theorem dX9_sum_46 : decode cX9_sum 46 = .ok (.aload_n 0, 1) := by decide +kernel
theorem dX9_sum_47 : decode cX9_sum 47 = .ok (.dup, 1) := by decide +kernel
theorem dX9_sum_48 : decode cX9_sum 48 = .ok (.getfield 300, 3) := by decide +kernel
theorem dX9_sum_51 : decode cX9_sum 51 = .ok (.iconst 1, 1) := by decide +kernel
theorem dX9_sum_52 : decode cX9_sum 52 = .ok (.iadd, 1) := by decide +kernel
theorem dX9_sum_53 : decode cX9_sum 53 = .ok (.putfield 300, 3) := by decide +kernel
theorem dX9_sum_56 : decode cX9_sum 56 = .ok (.lload_n 1, 1) := by decide +kernel
theorem dX9_sum_57 : decode cX9_sum 57 = .ok (.iload_n 3, 1) := by decide +kernel
theorem dX9_sum_58 : decode cX9_sum 58 = .ok (.i2l, 1) := by decide +kernel
theorem dX9_sum_59 : decode cX9_sum 59 = .ok (.aload_n 0, 1) := by decide +kernel
theorem dX9_sum_60 : decode cX9_sum 60 = .ok (.invokevirtual 325, 3) := by decide +kernel
theorem dX9_sum_63 : decode cX9_sum 63 = .ok (.lmul, 1) := by decide +kernel
theorem dX9_sum_64 : decode cX9_sum 64 = .ok (.ladd, 1) := by decide +kernel
theorem dX9_sum_65 : decode cX9_sum 65 = .ok (.lstore_n 1, 1) := by decide +kernel
theorem dX9_sum_66 : decode cX9_sum 66 = .ok (.goto (-61), 3) := by decide +kernel
theorem dX9_sum_69 : decode cX9_sum 69 = .ok (.lload_n 1, 1) := by decide +kernel
theorem dX9_sum_70 : decode cX9_sum 70 = .ok (.lreturn, 1) := by decide +kernel
theorem dX9_reads_0 : decode cX9_reads 0 = .ok (.aload_n 0, 1) := by decide +kernel
theorem dX9_reads_1 : decode cX9_reads 1 = .ok (.invokevirtual 186, 3) := by decide +kernel
theorem dX9_reads_4 : decode cX9_reads 4 = .ok (.aload_n 0, 1) := by decide +kernel
theorem dX9_reads_5 : decode cX9_reads 5 = .ok (.iload_n 1, 1) := by decide +kernel
theorem dX9_reads_6 : decode cX9_reads 6 = .ok (.putfield 303, 3) := by decide +kernel
theorem dX9_reads_9 : decode cX9_reads 9 = .ok (.aload_n 0, 1) := by decide +kernel
theorem dX9_reads_10 : decode cX9_reads 10 = .ok (.iload_n 2, 1) := by decide +kernel
theorem dX9_reads_11 : decode cX9_reads 11 = .ok (.putfield 316, 3) := by decide +kernel
theorem dX9_reads_14 : decode cX9_reads 14 = .ok (.aload_n 0, 1) := by decide +kernel
theorem dX9_reads_15 : decode cX9_reads 15 = .ok (.iconst 0, 1) := by decide +kernel
theorem dX9_reads_16 : decode cX9_reads 16 = .ok (.putfield 300, 3) := by decide +kernel
theorem dX9_reads_19 : decode cX9_reads 19 = .ok (.aload_n 0, 1) := by decide +kernel
theorem dX9_reads_20 : decode cX9_reads 20 = .ok (.iconst (-1), 1) := by decide +kernel
theorem dX9_reads_21 : decode cX9_reads 21 = .ok (.putfield 313, 3) := by decide +kernel
theorem dX9_reads_24 : decode cX9_reads 24 = .ok (.aload_n 0, 1) := by decide +kernel
theorem dX9_reads_25 : decode cX9_reads 25 = .ok (.invokevirtual 328, 3) := by decide +kernel
theorem dX9_reads_28 : decode cX9_reads 28 = .ok (.lstore_n 3, 1) := by decide +kernel
theorem dX9_reads_29 : decode cX9_reads 29 = .ok (.aload_n 0, 1) := by decide +kernel
theorem dX9_reads_30 : decode cX9_reads 30 = .ok (.getfield 313, 3) := by decide +kernel
theorem dX9_reads_33 : decode cX9_reads 33 = .ok (.iconst (-1), 1) := by decide +kernel
theorem dX9_reads_34 : decode cX9_reads 34 = .ok (.if_icmp .ne 20, 3) := by decide +kernel
theorem dX9_reads_37 : decode cX9_reads 37 = .ok (.aload_n 0, 1) := by decide +kernel
theorem dX9_reads_38 : decode cX9_reads 38 = .ok (.invokevirtual 306, 3) := by decide +kernel
theorem dX9_reads_41 : decode cX9_reads 41 = .ok (.bipush 61, 2) := by decide +kernel
theorem dX9_reads_43 : decode cX9_reads 43 = .ok (.if_icmp .eq 11, 3) := by decide +kernel
theorem dX9_reads_46 : decode cX9_reads 46 = .ok (.aload_n 0, 1) := by decide +kernel
theorem dX9_reads_47 : decode cX9_reads 47 = .ok (.aload_n 0, 1) := by decide +kernel
theorem dX9_reads_48 : decode cX9_reads 48 = .ok (.getfield 300, 3) := by decide +kernel
theorem dX9_reads_51 : decode cX9_reads 51 = .ok (.putfield 313, 3) := by decide +kernel
theorem dX9_reads_54 : decode cX9_reads 54 = .ok (.aload_n 0, 1) := by decide +kernel
theorem dX9_reads_55 : decode cX9_reads 55 = .ok (.getfield 313, 3) := by decide +kernel
theorem dX9_reads_58 : decode cX9_reads 58 = .ok (.iconst (-1), 1) := by decide +kernel
theorem dX9_reads_59 : decode cX9_reads 59 = .ok (.if_icmp .eq 5, 3) := by decide +kernel
theorem dX9_reads_62 : decode cX9_reads 62 = .ok (.lconst 0, 1) := by decide +kernel
theorem dX9_reads_63 : decode cX9_reads 63 = .ok (.lreturn, 1) := by decide +kernel
theorem dX9_reads_64 : decode cX9_reads 64 = .ok (.aload_n 0, 1) := by decide +kernel
theorem dX9_reads_65 : decode cX9_reads 65 = .ok (.dup, 1) := by decide +kernel
theorem dX9_reads_66 : decode cX9_reads 66 = .ok (.getfield 300, 3) := by decide +kernel
theorem dX9_reads_69 : decode cX9_reads 69 = .ok (.iconst 1, 1) := by decide +kernel
theorem dX9_reads_70 : decode cX9_reads 70 = .ok (.iadd, 1) := by decide +kernel
theorem dX9_reads_71 : decode cX9_reads 71 = .ok (.putfield 300, 3) := by decide +kernel
theorem dX9_reads_74 : decode cX9_reads 74 = .ok (.aload_n 0, 1) := by decide +kernel
theorem dX9_reads_75 : decode cX9_reads 75 = .ok (.invokevirtual 328, 3) := by decide +kernel
theorem dX9_reads_78 : decode cX9_reads 78 = .ok (.lstore 5, 2) := by decide +kernel
theorem dX9_reads_80 : decode cX9_reads 80 = .ok (.aload_n 0, 1) := by decide +kernel
theorem dX9_reads_81 : decode cX9_reads 81 = .ok (.getfield 313, 3) := by decide +kernel
theorem dX9_reads_84 : decode cX9_reads 84 = .ok (.iconst (-1), 1) := by decide +kernel
theorem dX9_reads_85 : decode cX9_reads 85 = .ok (.if_icmp .ne 24, 3) := by decide +kernel
theorem dX9_reads_88 : decode cX9_reads 88 = .ok (.aload_n 0, 1) := by decide +kernel
theorem dX9_reads_89 : decode cX9_reads 89 = .ok (.getfield 300, 3) := by decide +kernel
theorem dX9_reads_92 : decode cX9_reads 92 = .ok (.aload_n 0, 1) := by decide +kernel
theorem dX9_reads_93 : decode cX9_reads 93 = .ok (.getfield 85, 3) := by decide +kernel
theorem dX9_reads_96 : decode cX9_reads 96 = .ok (.iload_n 1, 1) := by decide +kernel
theorem dX9_reads_97 : decode cX9_reads 97 = .ok (.iaload, 1) := by decide +kernel
theorem dX9_reads_98 : decode cX9_reads 98 = .ok (.if_icmp .ge 11, 3) := by decide +kernel
theorem dX9_reads_101 : decode cX9_reads 101 = .ok (.aload_n 0, 1) := by decide +kernel
theorem dX9_reads_102 : decode cX9_reads 102 = .ok (.aload_n 0, 1) := by decide +kernel
theorem dX9_reads_103 : decode cX9_reads 103 = .ok (.getfield 300, 3) := by decide +kernel
theorem dX9_reads_106 : decode cX9_reads 106 = .ok (.putfield 313, 3) := by decide +kernel
theorem dX9_reads_109 : decode cX9_reads 109 = .ok (.lload_n 3, 1) := by decide +kernel
theorem dX9_reads_110 : decode cX9_reads 110 = .ok (.lload 5, 2) := by decide +kernel
theorem dX9_reads_112 : decode cX9_reads 112 = .ok (.lsub, 1) := by decide +kernel
theorem dX9_reads_113 : decode cX9_reads 113 = .ok (.lreturn, 1) := by decide +kernel
theorem dX9_fault_0 : decode cX9_fault 0 = .ok (.iload_n 1, 1) := by decide +kernel
theorem dX9_fault_1 : decode cX9_fault 1 = .ok (.invokestatic 295, 3) := by decide +kernel
theorem dX9_fault_4 : decode cX9_fault 4 = .ok (.ifCond .ne 6, 3) := by decide +kernel
theorem dX9_fault_7 : decode cX9_fault 7 = .ok (.bipush (-2), 2) := by decide +kernel
theorem dX9_fault_9 : decode cX9_fault 9 = .ok (.ireturn, 1) := by decide +kernel
theorem dX9_fault_10 : decode cX9_fault 10 = .ok (.aload_n 0, 1) := by decide +kernel
theorem dX9_fault_11 : decode cX9_fault 11 = .ok (.iload_n 1, 1) := by decide +kernel
theorem dX9_fault_12 : decode cX9_fault 12 = .ok (.iconst 0, 1) := by decide +kernel
theorem dX9_fault_13 : decode cX9_fault 13 = .ok (.invokevirtual 331, 3) := by decide +kernel
theorem dX9_fault_16 : decode cX9_fault 16 = .ok (.lstore_n 2, 1) := by decide +kernel
theorem dX9_fault_17 : decode cX9_fault 17 = .ok (.aload_n 0, 1) := by decide +kernel
theorem dX9_fault_18 : decode cX9_fault 18 = .ok (.getfield 313, 3) := by decide +kernel
theorem dX9_fault_21 : decode cX9_fault 21 = .ok (.ireturn, 1) := by decide +kernel
theorem dX9_left_0 : decode cX9_left 0 = .ok (.iload_n 1, 1) := by decide +kernel
theorem dX9_left_1 : decode cX9_left 1 = .ok (.invokestatic 295, 3) := by decide +kernel
theorem dX9_left_4 : decode cX9_left 4 = .ok (.ifCond .eq 10, 3) := by decide +kernel
theorem dX9_left_7 : decode cX9_left 7 = .ok (.iload_n 2, 1) := by decide +kernel
theorem dX9_left_8 : decode cX9_left 8 = .ok (.invokestatic 281, 3) := by decide +kernel
theorem dX9_left_11 : decode cX9_left 11 = .ok (.ifCond .ne 7, 3) := by decide +kernel
theorem dX9_left_14 : decode cX9_left 14 = .ok (.ldc2_w 189, 3) := by decide +kernel
theorem dX9_left_17 : decode cX9_left 17 = .ok (.lreturn, 1) := by decide +kernel
theorem dX9_left_18 : decode cX9_left 18 = .ok (.aload_n 0, 1) := by decide +kernel
theorem dX9_left_19 : decode cX9_left 19 = .ok (.iload_n 1, 1) := by decide +kernel
theorem dX9_left_20 : decode cX9_left 20 = .ok (.iload_n 2, 1) := by decide +kernel
theorem dX9_left_21 : decode cX9_left 21 = .ok (.invokevirtual 331, 3) := by decide +kernel
theorem dX9_left_24 : decode cX9_left 24 = .ok (.lstore_n 3, 1) := by decide +kernel
theorem dX9_left_25 : decode cX9_left 25 = .ok (.aload_n 0, 1) := by decide +kernel
theorem dX9_left_26 : decode cX9_left 26 = .ok (.getfield 313, 3) := by decide +kernel
theorem dX9_left_29 : decode cX9_left 29 = .ok (.iconst (-1), 1) := by decide +kernel
theorem dX9_left_30 : decode cX9_left 30 = .ok (.if_icmp .ne 7, 3) := by decide +kernel
theorem dX9_left_33 : decode cX9_left 33 = .ok (.lload_n 3, 1) := by decide +kernel
theorem dX9_left_34 : decode cX9_left 34 = .ok (.goto 6, 3) := by decide +kernel
theorem dX9_left_37 : decode cX9_left 37 = .ok (.ldc2_w 191, 3) := by decide +kernel
theorem dX9_left_40 : decode cX9_left 40 = .ok (.lreturn, 1) := by decide +kernel
theorem dX9_unkept_0 : decode cX9_unkept 0 = .ok (.iload_n 1, 1) := by decide +kernel
theorem dX9_unkept_1 : decode cX9_unkept 1 = .ok (.invokestatic 281, 3) := by decide +kernel
theorem dX9_unkept_4 : decode cX9_unkept 4 = .ok (.ifCond .ne 6, 3) := by decide +kernel
theorem dX9_unkept_7 : decode cX9_unkept 7 = .ok (.bipush (-2), 2) := by decide +kernel
theorem dX9_unkept_9 : decode cX9_unkept 9 = .ok (.ireturn, 1) := by decide +kernel
theorem dX9_unkept_10 : decode cX9_unkept 10 = .ok (.iconst 0, 1) := by decide +kernel
theorem dX9_unkept_11 : decode cX9_unkept 11 = .ok (.istore_n 2, 1) := by decide +kernel
theorem dX9_unkept_12 : decode cX9_unkept 12 = .ok (.iconst 0, 1) := by decide +kernel
theorem dX9_unkept_13 : decode cX9_unkept 13 = .ok (.istore_n 3, 1) := by decide +kernel
theorem dX9_unkept_14 : decode cX9_unkept 14 = .ok (.iload_n 3, 1) := by decide +kernel
theorem dX9_unkept_15 : decode cX9_unkept 15 = .ok (.iconst 4, 1) := by decide +kernel
theorem dX9_unkept_16 : decode cX9_unkept 16 = .ok (.if_icmp .ge 40, 3) := by decide +kernel
theorem dX9_unkept_19 : decode cX9_unkept 19 = .ok (.aload_n 0, 1) := by decide +kernel
theorem dX9_unkept_20 : decode cX9_unkept 20 = .ok (.iload_n 3, 1) := by decide +kernel
theorem dX9_unkept_21 : decode cX9_unkept 21 = .ok (.iload_n 1, 1) := by decide +kernel
theorem dX9_unkept_22 : decode cX9_unkept 22 = .ok (.invokevirtual 331, 3) := by decide +kernel
theorem dX9_unkept_25 : decode cX9_unkept 25 = .ok (.lstore 4, 2) := by decide +kernel
theorem dX9_unkept_27 : decode cX9_unkept 27 = .ok (.iload_n 2, 1) := by decide +kernel
theorem dX9_unkept_28 : decode cX9_unkept 28 = .ok (.aload_n 0, 1) := by decide +kernel
theorem dX9_unkept_29 : decode cX9_unkept 29 = .ok (.getfield 313, 3) := by decide +kernel
theorem dX9_unkept_32 : decode cX9_unkept 32 = .ok (.iconst (-1), 1) := by decide +kernel
theorem dX9_unkept_33 : decode cX9_unkept 33 = .ok (.if_icmp .ne 14, 3) := by decide +kernel
theorem dX9_unkept_36 : decode cX9_unkept 36 = .ok (.lload 4, 2) := by decide +kernel
theorem dX9_unkept_38 : decode cX9_unkept 38 = .ok (.lconst 0, 1) := by decide +kernel
theorem dX9_unkept_39 : decode cX9_unkept 39 = .ok (.lcmp, 1) := by decide +kernel
theorem dX9_unkept_40 : decode cX9_unkept 40 = .ok (.ifCond .eq 7, 3) := by decide +kernel
theorem dX9_unkept_43 : decode cX9_unkept 43 = .ok (.iconst 1, 1) := by decide +kernel
theorem dX9_unkept_44 : decode cX9_unkept 44 = .ok (.goto 4, 3) := by decide +kernel
theorem dX9_unkept_47 : decode cX9_unkept 47 = .ok (.iconst 0, 1) := by decide +kernel
theorem dX9_unkept_48 : decode cX9_unkept 48 = .ok (.iadd, 1) := by decide +kernel
theorem dX9_unkept_49 : decode cX9_unkept 49 = .ok (.istore_n 2, 1) := by decide +kernel
theorem dX9_unkept_50 : decode cX9_unkept 50 = .ok (.iinc 3 1, 3) := by decide +kernel
theorem dX9_unkept_53 : decode cX9_unkept 53 = .ok (.goto (-39), 3) := by decide +kernel
theorem dX9_unkept_56 : decode cX9_unkept 56 = .ok (.iload_n 2, 1) := by decide +kernel
theorem dX9_unkept_57 : decode cX9_unkept 57 = .ok (.ireturn, 1) := by decide +kernel
theorem dX9_areReleases_0 : decode cX9_areReleases 0 = .ok (.iload_n 0, 1) := by decide +kernel
theorem dX9_areReleases_1 : decode cX9_areReleases 1 = .ok (.invokestatic 133, 3) := by decide +kernel
theorem dX9_areReleases_4 : decode cX9_areReleases 4 = .ok (.ifCond .eq 34, 3) := by decide +kernel
theorem dX9_areReleases_7 : decode cX9_areReleases 7 = .ok (.iload_n 1, 1) := by decide +kernel
theorem dX9_areReleases_8 : decode cX9_areReleases 8 = .ok (.i2l, 1) := by decide +kernel
theorem dX9_areReleases_9 : decode cX9_areReleases 9 = .ok (.lconst 0, 1) := by decide +kernel
theorem dX9_areReleases_10 : decode cX9_areReleases 10 = .ok (.ldc2_w 153, 3) := by decide +kernel
theorem dX9_areReleases_13 : decode cX9_areReleases 13 = .ok (.invokestatic 106, 3) := by decide +kernel
theorem dX9_areReleases_16 : decode cX9_areReleases 16 = .ok (.ifCond .eq 22, 3) := by decide +kernel
theorem dX9_areReleases_19 : decode cX9_areReleases 19 = .ok (.iload_n 2, 1) := by decide +kernel
theorem dX9_areReleases_20 : decode cX9_areReleases 20 = .ok (.i2l, 1) := by decide +kernel
theorem dX9_areReleases_21 : decode cX9_areReleases 21 = .ok (.iload_n 1, 1) := by decide +kernel
theorem dX9_areReleases_22 : decode cX9_areReleases 22 = .ok (.iconst 1, 1) := by decide +kernel
theorem dX9_areReleases_23 : decode cX9_areReleases 23 = .ok (.iadd, 1) := by decide +kernel
theorem dX9_areReleases_24 : decode cX9_areReleases 24 = .ok (.i2l, 1) := by decide +kernel
theorem dX9_areReleases_25 : decode cX9_areReleases 25 = .ok (.ldc2_w 153, 3) := by decide +kernel
theorem dX9_areReleases_28 : decode cX9_areReleases 28 = .ok (.invokestatic 106, 3) := by decide +kernel
theorem dX9_areReleases_31 : decode cX9_areReleases 31 = .ok (.ifCond .eq 7, 3) := by decide +kernel
theorem dX9_areReleases_34 : decode cX9_areReleases 34 = .ok (.iconst 1, 1) := by decide +kernel
theorem dX9_areReleases_35 : decode cX9_areReleases 35 = .ok (.goto 4, 3) := by decide +kernel
theorem dX9_areReleases_38 : decode cX9_areReleases 38 = .ok (.iconst 0, 1) := by decide +kernel
theorem dX9_areReleases_39 : decode cX9_areReleases 39 = .ok (.ireturn, 1) := by decide +kernel
theorem dX9_revision_0 : decode cX9_revision 0 = .ok (.iload_n 1, 1) := by decide +kernel
theorem dX9_revision_1 : decode cX9_revision 1 = .ok (.iload_n 2, 1) := by decide +kernel
theorem dX9_revision_2 : decode cX9_revision 2 = .ok (.iload_n 3, 1) := by decide +kernel
theorem dX9_revision_3 : decode cX9_revision 3 = .ok (.invokestatic 334, 3) := by decide +kernel
theorem dX9_revision_6 : decode cX9_revision 6 = .ok (.ifCond .eq 23, 3) := by decide +kernel
theorem dX9_revision_9 : decode cX9_revision 9 = .ok (.aload_n 0, 1) := by decide +kernel
theorem dX9_revision_10 : decode cX9_revision 10 = .ok (.iload_n 1, 1) := by decide +kernel
theorem dX9_revision_11 : decode cX9_revision 11 = .ok (.iload_n 3, 1) := by decide +kernel
theorem dX9_revision_12 : decode cX9_revision 12 = .ok (.bipush 9, 2) := by decide +kernel
theorem dX9_revision_14 : decode cX9_revision 14 = .ok (.invokevirtual 173, 3) := by decide +kernel
theorem dX9_revision_17 : decode cX9_revision 17 = .ok (.aload_n 0, 1) := by decide +kernel
theorem dX9_revision_18 : decode cX9_revision 18 = .ok (.iload_n 1, 1) := by decide +kernel
theorem dX9_revision_19 : decode cX9_revision 19 = .ok (.iload_n 2, 1) := by decide +kernel
theorem dX9_revision_20 : decode cX9_revision 20 = .ok (.bipush 9, 2) := by decide +kernel
theorem dX9_revision_22 : decode cX9_revision 22 = .ok (.invokevirtual 173, 3) := by decide +kernel
theorem dX9_revision_25 : decode cX9_revision 25 = .ok (.lsub, 1) := by decide +kernel
theorem dX9_revision_26 : decode cX9_revision 26 = .ok (.goto 6, 3) := by decide +kernel
theorem dX9_revision_29 : decode cX9_revision 29 = .ok (.ldc2_w 189, 3) := by decide +kernel
theorem dX9_revision_32 : decode cX9_revision 32 = .ok (.lreturn, 1) := by decide +kernel
theorem dX9_hasRow_0 : decode cX9_hasRow 0 = .ok (.iconst 0, 1) := by decide +kernel
theorem dX9_hasRow_1 : decode cX9_hasRow 1 = .ok (.istore 4, 2) := by decide +kernel
theorem dX9_hasRow_3 : decode cX9_hasRow 3 = .ok (.iload 4, 2) := by decide +kernel
theorem dX9_hasRow_5 : decode cX9_hasRow 5 = .ok (.aload_n 0, 1) := by decide +kernel
theorem dX9_hasRow_6 : decode cX9_hasRow 6 = .ok (.getfield 161, 3) := by decide +kernel
theorem dX9_hasRow_9 : decode cX9_hasRow 9 = .ok (.if_icmp .ge 44, 3) := by decide +kernel
theorem dX9_hasRow_12 : decode cX9_hasRow 12 = .ok (.aload_n 0, 1) := by decide +kernel
theorem dX9_hasRow_13 : decode cX9_hasRow 13 = .ok (.getfield 16, 3) := by decide +kernel
theorem dX9_hasRow_16 : decode cX9_hasRow 16 = .ok (.iload 4, 2) := by decide +kernel
theorem dX9_hasRow_18 : decode cX9_hasRow 18 = .ok (.iaload, 1) := by decide +kernel
theorem dX9_hasRow_19 : decode cX9_hasRow 19 = .ok (.iload_n 1, 1) := by decide +kernel
theorem dX9_hasRow_20 : decode cX9_hasRow 20 = .ok (.if_icmp .ne 27, 3) := by decide +kernel
theorem dX9_hasRow_23 : decode cX9_hasRow 23 = .ok (.aload_n 0, 1) := by decide +kernel
theorem dX9_hasRow_24 : decode cX9_hasRow 24 = .ok (.getfield 13, 3) := by decide +kernel
theorem dX9_hasRow_27 : decode cX9_hasRow 27 = .ok (.iload 4, 2) := by decide +kernel
theorem dX9_hasRow_29 : decode cX9_hasRow 29 = .ok (.iaload, 1) := by decide +kernel
theorem dX9_hasRow_30 : decode cX9_hasRow 30 = .ok (.iload_n 2, 1) := by decide +kernel
theorem dX9_hasRow_31 : decode cX9_hasRow 31 = .ok (.if_icmp .ne 16, 3) := by decide +kernel
theorem dX9_hasRow_34 : decode cX9_hasRow 34 = .ok (.aload_n 0, 1) := by decide +kernel
theorem dX9_hasRow_35 : decode cX9_hasRow 35 = .ok (.getfield 22, 3) := by decide +kernel
theorem dX9_hasRow_38 : decode cX9_hasRow 38 = .ok (.iload 4, 2) := by decide +kernel
theorem dX9_hasRow_40 : decode cX9_hasRow 40 = .ok (.iaload, 1) := by decide +kernel
theorem dX9_hasRow_41 : decode cX9_hasRow 41 = .ok (.iload_n 3, 1) := by decide +kernel
theorem dX9_hasRow_42 : decode cX9_hasRow 42 = .ok (.if_icmp .ne 5, 3) := by decide +kernel
theorem dX9_hasRow_45 : decode cX9_hasRow 45 = .ok (.iconst 1, 1) := by decide +kernel
theorem dX9_hasRow_46 : decode cX9_hasRow 46 = .ok (.ireturn, 1) := by decide +kernel
theorem dX9_hasRow_47 : decode cX9_hasRow 47 = .ok (.iinc 4 1, 3) := by decide +kernel
theorem dX9_hasRow_50 : decode cX9_hasRow 50 = .ok (.goto (-47), 3) := by decide +kernel
theorem dX9_hasRow_53 : decode cX9_hasRow 53 = .ok (.iconst 0, 1) := by decide +kernel
theorem dX9_hasRow_54 : decode cX9_hasRow 54 = .ok (.ireturn, 1) := by decide +kernel
theorem dX9_stepsTo_0 : decode cX9_stepsTo 0 = .ok (.iconst 0, 1) := by decide +kernel
theorem dX9_stepsTo_1 : decode cX9_stepsTo 1 = .ok (.istore 5, 2) := by decide +kernel
theorem dX9_stepsTo_3 : decode cX9_stepsTo 3 = .ok (.iload_n 2, 1) := by decide +kernel
theorem dX9_stepsTo_4 : decode cX9_stepsTo 4 = .ok (.iconst 1, 1) := by decide +kernel
theorem dX9_stepsTo_5 : decode cX9_stepsTo 5 = .ok (.iadd, 1) := by decide +kernel
theorem dX9_stepsTo_6 : decode cX9_stepsTo 6 = .ok (.istore 6, 2) := by decide +kernel
theorem dX9_stepsTo_8 : decode cX9_stepsTo 8 = .ok (.iload 6, 2) := by decide +kernel
theorem dX9_stepsTo_10 : decode cX9_stepsTo 10 = .ok (.iload_n 3, 1) := by decide +kernel
theorem dX9_stepsTo_11 : decode cX9_stepsTo 11 = .ok (.if_icmp .gt 62, 3) := by decide +kernel
theorem dX9_stepsTo_14 : decode cX9_stepsTo 14 = .ok (.iconst 0, 1) := by decide +kernel
theorem dX9_stepsTo_15 : decode cX9_stepsTo 15 = .ok (.istore 7, 2) := by decide +kernel
theorem dX9_stepsTo_17 : decode cX9_stepsTo 17 = .ok (.iload 7, 2) := by decide +kernel
theorem dX9_stepsTo_19 : decode cX9_stepsTo 19 = .ok (.bipush 10, 2) := by decide +kernel
theorem dX9_stepsTo_21 : decode cX9_stepsTo 21 = .ok (.if_icmp .ge 46, 3) := by decide +kernel
theorem dX9_stepsTo_24 : decode cX9_stepsTo 24 = .ok (.aload_n 0, 1) := by decide +kernel
theorem dX9_stepsTo_25 : decode cX9_stepsTo 25 = .ok (.iload_n 1, 1) := by decide +kernel
theorem dX9_stepsTo_26 : decode cX9_stepsTo 26 = .ok (.iload 7, 2) := by decide +kernel
theorem dX9_stepsTo_28 : decode cX9_stepsTo 28 = .ok (.iload 6, 2) := by decide +kernel
theorem dX9_stepsTo_30 : decode cX9_stepsTo 30 = .ok (.invokevirtual 337, 3) := by decide +kernel
theorem dX9_stepsTo_33 : decode cX9_stepsTo 33 = .ok (.ifCond .eq 28, 3) := by decide +kernel
theorem dX9_stepsTo_36 : decode cX9_stepsTo 36 = .ok (.aload_n 0, 1) := by decide +kernel
theorem dX9_stepsTo_37 : decode cX9_stepsTo 37 = .ok (.iload 7, 2) := by decide +kernel
theorem dX9_stepsTo_39 : decode cX9_stepsTo 39 = .ok (.putfield 340, 3) := by decide +kernel
theorem dX9_stepsTo_42 : decode cX9_stepsTo 42 = .ok (.aload_n 0, 1) := by decide +kernel
theorem dX9_stepsTo_43 : decode cX9_stepsTo 43 = .ok (.iload 6, 2) := by decide +kernel
theorem dX9_stepsTo_45 : decode cX9_stepsTo 45 = .ok (.putfield 343, 3) := by decide +kernel
theorem dX9_stepsTo_48 : decode cX9_stepsTo 48 = .ok (.iload 5, 2) := by decide +kernel
theorem dX9_stepsTo_50 : decode cX9_stepsTo 50 = .ok (.iload 4, 2) := by decide +kernel
theorem dX9_stepsTo_52 : decode cX9_stepsTo 52 = .ok (.if_icmp .ne 6, 3) := by decide +kernel
theorem dX9_stepsTo_55 : decode cX9_stepsTo 55 = .ok (.iload 5, 2) := by decide +kernel
theorem dX9_stepsTo_57 : decode cX9_stepsTo 57 = .ok (.ireturn, 1) := by decide +kernel
theorem dX9_stepsTo_58 : decode cX9_stepsTo 58 = .ok (.iinc 5 1, 3) := by decide +kernel
theorem dX9_stepsTo_61 : decode cX9_stepsTo 61 = .ok (.iinc 7 1, 3) := by decide +kernel
theorem dX9_stepsTo_64 : decode cX9_stepsTo 64 = .ok (.goto (-47), 3) := by decide +kernel
theorem dX9_stepsTo_67 : decode cX9_stepsTo 67 = .ok (.iinc 6 1, 3) := by decide +kernel
theorem dX9_stepsTo_70 : decode cX9_stepsTo 70 = .ok (.goto (-62), 3) := by decide +kernel
theorem dX9_stepsTo_73 : decode cX9_stepsTo 73 = .ok (.iload 5, 2) := by decide +kernel
theorem dX9_stepsTo_75 : decode cX9_stepsTo 75 = .ok (.ireturn, 1) := by decide +kernel
theorem dX9_steps_0 : decode cX9_steps 0 = .ok (.iload_n 1, 1) := by decide +kernel
theorem dX9_steps_1 : decode cX9_steps 1 = .ok (.iload_n 2, 1) := by decide +kernel
theorem dX9_steps_2 : decode cX9_steps 2 = .ok (.iload_n 3, 1) := by decide +kernel
theorem dX9_steps_3 : decode cX9_steps 3 = .ok (.invokestatic 334, 3) := by decide +kernel
theorem dX9_steps_6 : decode cX9_steps 6 = .ok (.ifCond .eq 14, 3) := by decide +kernel
theorem dX9_steps_9 : decode cX9_steps 9 = .ok (.aload_n 0, 1) := by decide +kernel
theorem dX9_steps_10 : decode cX9_steps 10 = .ok (.iload_n 1, 1) := by decide +kernel
theorem dX9_steps_11 : decode cX9_steps 11 = .ok (.iload_n 2, 1) := by decide +kernel
theorem dX9_steps_12 : decode cX9_steps 12 = .ok (.iload_n 3, 1) := by decide +kernel
theorem dX9_steps_13 : decode cX9_steps 13 = .ok (.iconst (-1), 1) := by decide +kernel
theorem dX9_steps_14 : decode cX9_steps 14 = .ok (.invokevirtual 346, 3) := by decide +kernel
theorem dX9_steps_17 : decode cX9_steps 17 = .ok (.goto 5, 3) := by decide +kernel
theorem dX9_steps_20 : decode cX9_steps 20 = .ok (.bipush (-2), 2) := by decide +kernel
theorem dX9_steps_22 : decode cX9_steps 22 = .ok (.ireturn, 1) := by decide +kernel
theorem dX9_step_0 : decode cX9_step 0 = .ok (.iload_n 1, 1) := by decide +kernel
theorem dX9_step_1 : decode cX9_step 1 = .ok (.iload_n 2, 1) := by decide +kernel
theorem dX9_step_2 : decode cX9_step 2 = .ok (.iload_n 3, 1) := by decide +kernel
theorem dX9_step_3 : decode cX9_step 3 = .ok (.invokestatic 334, 3) := by decide +kernel
theorem dX9_step_6 : decode cX9_step 6 = .ok (.ifCond .eq 34, 3) := by decide +kernel
theorem dX9_step_9 : decode cX9_step 9 = .ok (.iload 4, 2) := by decide +kernel
theorem dX9_step_11 : decode cX9_step 11 = .ok (.ifCond .lt 29, 3) := by decide +kernel
theorem dX9_step_14 : decode cX9_step 14 = .ok (.iload 4, 2) := by decide +kernel
theorem dX9_step_16 : decode cX9_step 16 = .ok (.aload_n 0, 1) := by decide +kernel
theorem dX9_step_17 : decode cX9_step 17 = .ok (.iload_n 1, 1) := by decide +kernel
theorem dX9_step_18 : decode cX9_step 18 = .ok (.iload_n 2, 1) := by decide +kernel
theorem dX9_step_19 : decode cX9_step 19 = .ok (.iload_n 3, 1) := by decide +kernel
theorem dX9_step_20 : decode cX9_step 20 = .ok (.iconst (-1), 1) := by decide +kernel
theorem dX9_step_21 : decode cX9_step 21 = .ok (.invokevirtual 346, 3) := by decide +kernel
theorem dX9_step_24 : decode cX9_step 24 = .ok (.if_icmp .ge 16, 3) := by decide +kernel
theorem dX9_step_27 : decode cX9_step 27 = .ok (.iload 5, 2) := by decide +kernel
theorem dX9_step_29 : decode cX9_step 29 = .ok (.i2l, 1) := by decide +kernel
theorem dX9_step_30 : decode cX9_step 30 = .ok (.lconst 0, 1) := by decide +kernel
theorem dX9_step_31 : decode cX9_step 31 = .ok (.ldc2_w 128, 3) := by decide +kernel
theorem dX9_step_34 : decode cX9_step 34 = .ok (.invokestatic 106, 3) := by decide +kernel
theorem dX9_step_37 : decode cX9_step 37 = .ok (.ifCond .ne 7, 3) := by decide +kernel
theorem dX9_step_40 : decode cX9_step 40 = .ok (.ldc2_w 189, 3) := by decide +kernel
theorem dX9_step_43 : decode cX9_step 43 = .ok (.lreturn, 1) := by decide +kernel
theorem dX9_step_44 : decode cX9_step 44 = .ok (.aload_n 0, 1) := by decide +kernel
theorem dX9_step_45 : decode cX9_step 45 = .ok (.iload_n 1, 1) := by decide +kernel
theorem dX9_step_46 : decode cX9_step 46 = .ok (.iload_n 2, 1) := by decide +kernel
theorem dX9_step_47 : decode cX9_step 47 = .ok (.iload_n 3, 1) := by decide +kernel
theorem dX9_step_48 : decode cX9_step 48 = .ok (.iload 4, 2) := by decide +kernel
theorem dX9_step_50 : decode cX9_step 50 = .ok (.invokevirtual 346, 3) := by decide +kernel
theorem dX9_step_53 : decode cX9_step 53 = .ok (.istore 6, 2) := by decide +kernel
theorem dX9_step_55 : decode cX9_step 55 = .ok (.iload 5, 2) := by decide +kernel
theorem dX9_step_57 : decode cX9_step 57 = .ok (.ifCond .le 23, 3) := by decide +kernel
theorem dX9_step_60 : decode cX9_step 60 = .ok (.iload 5, 2) := by decide +kernel
theorem dX9_step_62 : decode cX9_step 62 = .ok (.iconst 1, 1) := by decide +kernel
theorem dX9_step_63 : decode cX9_step 63 = .ok (.if_icmp .ne 11, 3) := by decide +kernel
theorem dX9_step_66 : decode cX9_step 66 = .ok (.aload_n 0, 1) := by decide +kernel
theorem dX9_step_67 : decode cX9_step 67 = .ok (.getfield 340, 3) := by decide +kernel
theorem dX9_step_70 : decode cX9_step 70 = .ok (.i2l, 1) := by decide +kernel
theorem dX9_step_71 : decode cX9_step 71 = .ok (.goto 8, 3) := by decide +kernel
theorem dX9_step_74 : decode cX9_step 74 = .ok (.aload_n 0, 1) := by decide +kernel
theorem dX9_step_75 : decode cX9_step 75 = .ok (.getfield 343, 3) := by decide +kernel
theorem dX9_step_78 : decode cX9_step 78 = .ok (.i2l, 1) := by decide +kernel
theorem dX9_step_79 : decode cX9_step 79 = .ok (.lreturn, 1) := by decide +kernel
theorem dX9_step_80 : decode cX9_step 80 = .ok (.aload_n 0, 1) := by decide +kernel
theorem dX9_step_81 : decode cX9_step 81 = .ok (.iload_n 1, 1) := by decide +kernel
theorem dX9_step_82 : decode cX9_step 82 = .ok (.aload_n 0, 1) := by decide +kernel
theorem dX9_step_83 : decode cX9_step 83 = .ok (.getfield 343, 3) := by decide +kernel
theorem dX9_step_86 : decode cX9_step 86 = .ok (.aload_n 0, 1) := by decide +kernel
theorem dX9_step_87 : decode cX9_step 87 = .ok (.getfield 340, 3) := by decide +kernel
theorem dX9_step_90 : decode cX9_step 90 = .ok (.invokevirtual 173, 3) := by decide +kernel
theorem dX9_step_93 : decode cX9_step 93 = .ok (.aload_n 0, 1) := by decide +kernel
theorem dX9_step_94 : decode cX9_step 94 = .ok (.iload_n 1, 1) := by decide +kernel
theorem dX9_step_95 : decode cX9_step 95 = .ok (.aload_n 0, 1) := by decide +kernel
theorem dX9_step_96 : decode cX9_step 96 = .ok (.getfield 343, 3) := by decide +kernel
theorem dX9_step_99 : decode cX9_step 99 = .ok (.aload_n 0, 1) := by decide +kernel
theorem dX9_step_100 : decode cX9_step 100 = .ok (.getfield 340, 3) := by decide +kernel
theorem dX9_step_103 : decode cX9_step 103 = .ok (.iconst 1, 1) := by decide +kernel
theorem dX9_step_104 : decode cX9_step 104 = .ok (.isub, 1) := by decide +kernel
theorem dX9_step_105 : decode cX9_step 105 = .ok (.invokevirtual 173, 3) := by decide +kernel
theorem dX9_step_108 : decode cX9_step 108 = .ok (.lsub, 1) := by decide +kernel
theorem dX9_step_109 : decode cX9_step 109 = .ok (.lreturn, 1) := by decide +kernel
theorem dX9_ledBy_0 : decode cX9_ledBy 0 = .ok (.lconst 0, 1) := by decide +kernel
theorem dX9_ledBy_1 : decode cX9_ledBy 1 = .ok (.lstore_n 2, 1) := by decide +kernel
theorem dX9_ledBy_2 : decode cX9_ledBy 2 = .ok (.iconst 0, 1) := by decide +kernel
theorem dX9_ledBy_3 : decode cX9_ledBy 3 = .ok (.istore 4, 2) := by decide +kernel
theorem dX9_ledBy_5 : decode cX9_ledBy 5 = .ok (.iload 4, 2) := by decide +kernel
theorem dX9_ledBy_7 : decode cX9_ledBy 7 = .ok (.aload_n 0, 1) := by decide +kernel
theorem dX9_ledBy_8 : decode cX9_ledBy 8 = .ok (.getfield 161, 3) := by decide +kernel
theorem dX9_ledBy_11 : decode cX9_ledBy 11 = .ok (.if_icmp .ge 48, 3) := by decide +kernel
theorem dX9_ledBy_14 : decode cX9_ledBy 14 = .ok (.iload 4, 2) := by decide +kernel
theorem dX9_ledBy_16 : decode cX9_ledBy 16 = .ok (.bipush 63, 2) := by decide +kernel
theorem dX9_ledBy_18 : decode cX9_ledBy 18 = .ok (.if_icmp .ge 41, 3) := by decide +kernel
theorem dX9_ledBy_21 : decode cX9_ledBy 21 = .ok (.lload_n 2, 1) := by decide +kernel
theorem dX9_ledBy_22 : decode cX9_ledBy 22 = .ok (.aload_n 0, 1) := by decide +kernel
theorem dX9_ledBy_23 : decode cX9_ledBy 23 = .ok (.getfield 16, 3) := by decide +kernel
theorem dX9_ledBy_26 : decode cX9_ledBy 26 = .ok (.iload 4, 2) := by decide +kernel
theorem dX9_ledBy_28 : decode cX9_ledBy 28 = .ok (.iaload, 1) := by decide +kernel
theorem dX9_ledBy_29 : decode cX9_ledBy 29 = .ok (.iload_n 1, 1) := by decide +kernel
theorem dX9_ledBy_30 : decode cX9_ledBy 30 = .ok (.if_icmp .ne 20, 3) := by decide +kernel
theorem dX9_ledBy_33 : decode cX9_ledBy 33 = .ok (.aload_n 0, 1) := by decide +kernel
theorem dX9_ledBy_34 : decode cX9_ledBy 34 = .ok (.getfield 29, 3) := by decide +kernel
theorem dX9_ledBy_37 : decode cX9_ledBy 37 = .ok (.iload 4, 2) := by decide +kernel
theorem dX9_ledBy_39 : decode cX9_ledBy 39 = .ok (.baload, 1) := by decide +kernel
theorem dX9_ledBy_40 : decode cX9_ledBy 40 = .ok (.ifCond .eq 10, 3) := by decide +kernel
theorem dX9_ledBy_43 : decode cX9_ledBy 43 = .ok (.lconst 1, 1) := by decide +kernel
theorem dX9_ledBy_44 : decode cX9_ledBy 44 = .ok (.iload 4, 2) := by decide +kernel
theorem dX9_ledBy_46 : decode cX9_ledBy 46 = .ok (.lshl, 1) := by decide +kernel
theorem dX9_ledBy_47 : decode cX9_ledBy 47 = .ok (.goto 4, 3) := by decide +kernel
theorem dX9_ledBy_50 : decode cX9_ledBy 50 = .ok (.lconst 0, 1) := by decide +kernel
theorem dX9_ledBy_51 : decode cX9_ledBy 51 = .ok (.lor, 1) := by decide +kernel
theorem dX9_ledBy_52 : decode cX9_ledBy 52 = .ok (.lstore_n 2, 1) := by decide +kernel
theorem dX9_ledBy_53 : decode cX9_ledBy 53 = .ok (.iinc 4 1, 3) := by decide +kernel
theorem dX9_ledBy_56 : decode cX9_ledBy 56 = .ok (.goto (-51), 3) := by decide +kernel
theorem dX9_ledBy_59 : decode cX9_ledBy 59 = .ok (.lload_n 2, 1) := by decide +kernel
theorem dX9_ledBy_60 : decode cX9_ledBy 60 = .ok (.lreturn, 1) := by decide +kernel
theorem dX9_led_0 : decode cX9_led 0 = .ok (.iload_n 1, 1) := by decide +kernel
theorem dX9_led_1 : decode cX9_led 1 = .ok (.invokestatic 133, 3) := by decide +kernel
theorem dX9_led_4 : decode cX9_led 4 = .ok (.ifCond .eq 14, 3) := by decide +kernel
theorem dX9_led_7 : decode cX9_led 7 = .ok (.iload_n 2, 1) := by decide +kernel
theorem dX9_led_8 : decode cX9_led 8 = .ok (.ifCond .eq 14, 3) := by decide +kernel
theorem dX9_led_11 : decode cX9_led 11 = .ok (.iload_n 1, 1) := by decide +kernel
theorem dX9_led_12 : decode cX9_led 12 = .ok (.invokestatic 150, 3) := by decide +kernel
theorem dX9_led_15 : decode cX9_led 15 = .ok (.ifCond .ne 7, 3) := by decide +kernel
theorem dX9_led_18 : decode cX9_led 18 = .ok (.ldc2_w 189, 3) := by decide +kernel
theorem dX9_led_21 : decode cX9_led 21 = .ok (.lreturn, 1) := by decide +kernel
theorem dX9_led_22 : decode cX9_led 22 = .ok (.aload_n 0, 1) := by decide +kernel
theorem dX9_led_23 : decode cX9_led 23 = .ok (.invokevirtual 186, 3) := by decide +kernel
theorem dX9_led_26 : decode cX9_led 26 = .ok (.iload_n 2, 1) := by decide +kernel
theorem dX9_led_27 : decode cX9_led 27 = .ok (.ifCond .ne 9, 3) := by decide +kernel
theorem dX9_led_30 : decode cX9_led 30 = .ok (.aload_n 0, 1) := by decide +kernel
theorem dX9_led_31 : decode cX9_led 31 = .ok (.iload_n 1, 1) := by decide +kernel
theorem dX9_led_32 : decode cX9_led 32 = .ok (.invokevirtual 349, 3) := by decide +kernel
theorem dX9_led_35 : decode cX9_led 35 = .ok (.lreturn, 1) := by decide +kernel
theorem dX9_led_36 : decode cX9_led 36 = .ok (.lconst 0, 1) := by decide +kernel
theorem dX9_led_37 : decode cX9_led 37 = .ok (.lstore_n 3, 1) := by decide +kernel
theorem dX9_led_38 : decode cX9_led 38 = .ok (.iload_n 1, 1) := by decide +kernel
theorem dX9_led_39 : decode cX9_led 39 = .ok (.invokestatic 147, 3) := by decide +kernel
theorem dX9_led_42 : decode cX9_led 42 = .ok (.iconst 4, 1) := by decide +kernel
theorem dX9_led_43 : decode cX9_led 43 = .ok (.idiv, 1) := by decide +kernel
theorem dX9_led_44 : decode cX9_led 44 = .ok (.istore 5, 2) := by decide +kernel
theorem dX9_led_46 : decode cX9_led 46 = .ok (.iconst 0, 1) := by decide +kernel
theorem dX9_led_47 : decode cX9_led 47 = .ok (.istore 6, 2) := by decide +kernel
theorem dX9_led_49 : decode cX9_led 49 = .ok (.iload 6, 2) := by decide +kernel
theorem dX9_led_51 : decode cX9_led 51 = .ok (.bipush 6, 2) := by decide +kernel
theorem dX9_led_53 : decode cX9_led 53 = .ok (.if_icmp .ge 76, 3) := by decide +kernel
theorem dX9_led_56 : decode cX9_led 56 = .ok (.lload_n 3, 1) := by decide +kernel
theorem dX9_led_57 : decode cX9_led 57 = .ok (.aload_n 0, 1) := by decide +kernel
theorem dX9_led_58 : decode cX9_led 58 = .ok (.iload_n 1, 1) := by decide +kernel
theorem dX9_led_59 : decode cX9_led 59 = .ok (.invokestatic 137, 3) := by decide +kernel
theorem dX9_led_62 : decode cX9_led 62 = .ok (.iload_n 1, 1) := by decide +kernel
theorem dX9_led_63 : decode cX9_led 63 = .ok (.invokestatic 141, 3) := by decide +kernel
theorem dX9_led_66 : decode cX9_led 66 = .ok (.iload 6, 2) := by decide +kernel
theorem dX9_led_68 : decode cX9_led 68 = .ok (.iload 5, 2) := by decide +kernel
theorem dX9_led_70 : decode cX9_led 70 = .ok (.invokestatic 130, 3) := by decide +kernel
theorem dX9_led_73 : decode cX9_led 73 = .ok (.invokevirtual 349, 3) := by decide +kernel
theorem dX9_led_76 : decode cX9_led 76 = .ok (.lor, 1) := by decide +kernel
theorem dX9_led_77 : decode cX9_led 77 = .ok (.lstore_n 3, 1) := by decide +kernel
theorem dX9_led_78 : decode cX9_led 78 = .ok (.iconst 4, 1) := by decide +kernel
theorem dX9_led_79 : decode cX9_led 79 = .ok (.iload 5, 2) := by decide +kernel
theorem dX9_led_81 : decode cX9_led 81 = .ok (.imul, 1) := by decide +kernel
theorem dX9_led_82 : decode cX9_led 82 = .ok (.istore 7, 2) := by decide +kernel
theorem dX9_led_84 : decode cX9_led 84 = .ok (.iload 7, 2) := by decide +kernel
theorem dX9_led_86 : decode cX9_led 86 = .ok (.iconst 4, 1) := by decide +kernel
theorem dX9_led_87 : decode cX9_led 87 = .ok (.iload 5, 2) := by decide +kernel
theorem dX9_led_89 : decode cX9_led 89 = .ok (.imul, 1) := by decide +kernel
theorem dX9_led_90 : decode cX9_led 90 = .ok (.iconst 4, 1) := by decide +kernel
theorem dX9_led_91 : decode cX9_led 91 = .ok (.iadd, 1) := by decide +kernel
theorem dX9_led_92 : decode cX9_led 92 = .ok (.if_icmp .ge 31, 3) := by decide +kernel
theorem dX9_led_95 : decode cX9_led 95 = .ok (.lload_n 3, 1) := by decide +kernel
theorem dX9_led_96 : decode cX9_led 96 = .ok (.aload_n 0, 1) := by decide +kernel
theorem dX9_led_97 : decode cX9_led 97 = .ok (.iload_n 1, 1) := by decide +kernel
theorem dX9_led_98 : decode cX9_led 98 = .ok (.invokestatic 137, 3) := by decide +kernel
theorem dX9_led_101 : decode cX9_led 101 = .ok (.iload_n 1, 1) := by decide +kernel
theorem dX9_led_102 : decode cX9_led 102 = .ok (.invokestatic 141, 3) := by decide +kernel
theorem dX9_led_105 : decode cX9_led 105 = .ok (.iload 6, 2) := by decide +kernel
theorem dX9_led_107 : decode cX9_led 107 = .ok (.iload 7, 2) := by decide +kernel
theorem dX9_led_109 : decode cX9_led 109 = .ok (.invokestatic 124, 3) := by decide +kernel
theorem dX9_led_112 : decode cX9_led 112 = .ok (.invokevirtual 349, 3) := by decide +kernel
theorem dX9_led_115 : decode cX9_led 115 = .ok (.lor, 1) := by decide +kernel
theorem dX9_led_116 : decode cX9_led 116 = .ok (.lstore_n 3, 1) := by decide +kernel
theorem dX9_led_117 : decode cX9_led 117 = .ok (.iinc 7 1, 3) := by decide +kernel
theorem dX9_led_120 : decode cX9_led 120 = .ok (.goto (-36), 3) := by decide +kernel
theorem dX9_led_123 : decode cX9_led 123 = .ok (.iinc 6 1, 3) := by decide +kernel
theorem dX9_led_126 : decode cX9_led 126 = .ok (.goto (-77), 3) := by decide +kernel
theorem dX9_led_129 : decode cX9_led 129 = .ok (.lload_n 3, 1) := by decide +kernel
theorem dX9_led_130 : decode cX9_led 130 = .ok (.lreturn, 1) := by decide +kernel
theorem dX9_meets_0 : decode cX9_meets 0 = .ok (.aload_n 0, 1) := by decide +kernel
theorem dX9_meets_1 : decode cX9_meets 1 = .ok (.iload_n 1, 1) := by decide +kernel
theorem dX9_meets_2 : decode cX9_meets 2 = .ok (.putfield 353, 3) := by decide +kernel
theorem dX9_meets_5 : decode cX9_meets 5 = .ok (.bipush (-10), 2) := by decide +kernel
theorem dX9_meets_7 : decode cX9_meets 7 = .ok (.iload_n 1, 1) := by decide +kernel
theorem dX9_meets_8 : decode cX9_meets 8 = .ok (.isub, 1) := by decide +kernel
theorem dX9_meets_9 : decode cX9_meets 9 = .ok (.ireturn, 1) := by decide +kernel
theorem dX9_isSheet_0 : decode cX9_isSheet 0 = .ok (.iload_n 0, 1) := by decide +kernel
theorem dX9_isSheet_1 : decode cX9_isSheet 1 = .ok (.i2l, 1) := by decide +kernel
theorem dX9_isSheet_2 : decode cX9_isSheet 2 = .ok (.lconst 0, 1) := by decide +kernel
theorem dX9_isSheet_3 : decode cX9_isSheet 3 = .ok (.ldc2_w 110, 3) := by decide +kernel
theorem dX9_isSheet_6 : decode cX9_isSheet 6 = .ok (.invokestatic 106, 3) := by decide +kernel
theorem dX9_isSheet_9 : decode cX9_isSheet 9 = .ok (.ireturn, 1) := by decide +kernel
theorem dX9_sheet_0 : decode cX9_sheet 0 = .ok (.iload_n 1, 1) := by decide +kernel
theorem dX9_sheet_1 : decode cX9_sheet 1 = .ok (.invokestatic 356, 3) := by decide +kernel
theorem dX9_sheet_4 : decode cX9_sheet 4 = .ok (.ifCond .eq 21, 3) := by decide +kernel
theorem dX9_sheet_7 : decode cX9_sheet 7 = .ok (.iload_n 2, 1) := by decide +kernel
theorem dX9_sheet_8 : decode cX9_sheet 8 = .ok (.i2l, 1) := by decide +kernel
theorem dX9_sheet_9 : decode cX9_sheet 9 = .ok (.lconst 0, 1) := by decide +kernel
theorem dX9_sheet_10 : decode cX9_sheet 10 = .ok (.ldc2_w 128, 3) := by decide +kernel
theorem dX9_sheet_13 : decode cX9_sheet 13 = .ok (.invokestatic 106, 3) := by decide +kernel
theorem dX9_sheet_16 : decode cX9_sheet 16 = .ok (.ifCond .eq 9, 3) := by decide +kernel
theorem dX9_sheet_19 : decode cX9_sheet 19 = .ok (.iload_n 3, 1) := by decide +kernel
theorem dX9_sheet_20 : decode cX9_sheet 20 = .ok (.bipush 60, 2) := by decide +kernel
theorem dX9_sheet_22 : decode cX9_sheet 22 = .ok (.if_icmp .le 6, 3) := by decide +kernel
theorem dX9_sheet_25 : decode cX9_sheet 25 = .ok (.bipush (-2), 2) := by decide +kernel
theorem dX9_sheet_27 : decode cX9_sheet 27 = .ok (.ireturn, 1) := by decide +kernel
theorem dX9_sheet_28 : decode cX9_sheet 28 = .ok (.iload_n 3, 1) := by decide +kernel
theorem dX9_sheet_29 : decode cX9_sheet 29 = .ok (.ifCond .ge 9, 3) := by decide +kernel
theorem dX9_sheet_32 : decode cX9_sheet 32 = .ok (.aload_n 0, 1) := by decide +kernel
theorem dX9_sheet_33 : decode cX9_sheet 33 = .ok (.iconst 5, 1) := by decide +kernel
theorem dX9_sheet_34 : decode cX9_sheet 34 = .ok (.invokevirtual 359, 3) := by decide +kernel
theorem dX9_sheet_37 : decode cX9_sheet 37 = .ok (.ireturn, 1) := by decide +kernel
theorem dX9_sheet_38 : decode cX9_sheet 38 = .ok (.aload_n 0, 1) := by decide +kernel
theorem dX9_sheet_39 : decode cX9_sheet 39 = .ok (.getfield 91, 3) := by decide +kernel
theorem dX9_sheet_42 : decode cX9_sheet 42 = .ok (.iload_n 1, 1) := by decide +kernel
theorem dX9_sheet_43 : decode cX9_sheet 43 = .ok (.iconst 1, 1) := by decide +kernel
theorem dX9_sheet_44 : decode cX9_sheet 44 = .ok (.bastore, 1) := by decide +kernel
theorem dX9_sheet_45 : decode cX9_sheet 45 = .ok (.aload_n 0, 1) := by decide +kernel
theorem dX9_sheet_46 : decode cX9_sheet 46 = .ok (.getfield 94, 3) := by decide +kernel
theorem dX9_sheet_49 : decode cX9_sheet 49 = .ok (.iload_n 1, 1) := by decide +kernel
theorem dX9_sheet_50 : decode cX9_sheet 50 = .ok (.iload_n 2, 1) := by decide +kernel
theorem dX9_sheet_51 : decode cX9_sheet 51 = .ok (.iastore, 1) := by decide +kernel
theorem dX9_sheet_52 : decode cX9_sheet 52 = .ok (.aload_n 0, 1) := by decide +kernel
theorem dX9_sheet_53 : decode cX9_sheet 53 = .ok (.getfield 97, 3) := by decide +kernel
theorem dX9_sheet_56 : decode cX9_sheet 56 = .ok (.iload_n 1, 1) := by decide +kernel
theorem dX9_sheet_57 : decode cX9_sheet 57 = .ok (.iload_n 3, 1) := by decide +kernel
theorem dX9_sheet_58 : decode cX9_sheet 58 = .ok (.iastore, 1) := by decide +kernel
theorem dX9_sheet_59 : decode cX9_sheet 59 = .ok (.iconst 0, 1) := by decide +kernel
theorem dX9_sheet_60 : decode cX9_sheet 60 = .ok (.istore 4, 2) := by decide +kernel
theorem dX9_sheet_62 : decode cX9_sheet 62 = .ok (.iload 4, 2) := by decide +kernel
theorem dX9_sheet_64 : decode cX9_sheet 64 = .ok (.bipush 60, 2) := by decide +kernel
theorem dX9_sheet_66 : decode cX9_sheet 66 = .ok (.if_icmp .ge 22, 3) := by decide +kernel
theorem dX9_sheet_69 : decode cX9_sheet 69 = .ok (.aload_n 0, 1) := by decide +kernel
theorem dX9_sheet_70 : decode cX9_sheet 70 = .ok (.getfield 100, 3) := by decide +kernel
theorem dX9_sheet_73 : decode cX9_sheet 73 = .ok (.bipush 60, 2) := by decide +kernel
theorem dX9_sheet_75 : decode cX9_sheet 75 = .ok (.iload_n 1, 1) := by decide +kernel
theorem dX9_sheet_76 : decode cX9_sheet 76 = .ok (.imul, 1) := by decide +kernel
theorem dX9_sheet_77 : decode cX9_sheet 77 = .ok (.iload 4, 2) := by decide +kernel
theorem dX9_sheet_79 : decode cX9_sheet 79 = .ok (.iadd, 1) := by decide +kernel
theorem dX9_sheet_80 : decode cX9_sheet 80 = .ok (.iconst 0, 1) := by decide +kernel
theorem dX9_sheet_81 : decode cX9_sheet 81 = .ok (.iastore, 1) := by decide +kernel
theorem dX9_sheet_82 : decode cX9_sheet 82 = .ok (.iinc 4 1, 3) := by decide +kernel
theorem dX9_sheet_85 : decode cX9_sheet 85 = .ok (.goto (-23), 3) := by decide +kernel
theorem dX9_sheet_88 : decode cX9_sheet 88 = .ok (.iload_n 3, 1) := by decide +kernel
theorem dX9_sheet_89 : decode cX9_sheet 89 = .ok (.ireturn, 1) := by decide +kernel
theorem dX9_lose_0 : decode cX9_lose 0 = .ok (.iload_n 1, 1) := by decide +kernel
theorem dX9_lose_1 : decode cX9_lose 1 = .ok (.invokestatic 356, 3) := by decide +kernel
theorem dX9_lose_4 : decode cX9_lose 4 = .ok (.ifCond .ne 6, 3) := by decide +kernel
theorem dX9_lose_7 : decode cX9_lose 7 = .ok (.bipush (-2), 2) := by decide +kernel
theorem dX9_lose_9 : decode cX9_lose 9 = .ok (.ireturn, 1) := by decide +kernel
theorem dX9_lose_10 : decode cX9_lose 10 = .ok (.aload_n 0, 1) := by decide +kernel
theorem dX9_lose_11 : decode cX9_lose 11 = .ok (.getfield 91, 3) := by decide +kernel
theorem dX9_lose_14 : decode cX9_lose 14 = .ok (.iload_n 1, 1) := by decide +kernel
theorem dX9_lose_15 : decode cX9_lose 15 = .ok (.baload, 1) := by decide +kernel
theorem dX9_lose_16 : decode cX9_lose 16 = .ok (.ifCond .ne 9, 3) := by decide +kernel
theorem dX9_lose_19 : decode cX9_lose 19 = .ok (.aload_n 0, 1) := by decide +kernel
theorem dX9_lose_20 : decode cX9_lose 20 = .ok (.iconst 1, 1) := by decide +kernel
theorem dX9_lose_21 : decode cX9_lose 21 = .ok (.invokevirtual 359, 3) := by decide +kernel
theorem dX9_lose_24 : decode cX9_lose 24 = .ok (.ireturn, 1) := by decide +kernel
theorem dX9_lose_25 : decode cX9_lose 25 = .ok (.aload_n 0, 1) := by decide +kernel
theorem dX9_lose_26 : decode cX9_lose 26 = .ok (.getfield 91, 3) := by decide +kernel
theorem dX9_lose_29 : decode cX9_lose 29 = .ok (.iload_n 1, 1) := by decide +kernel
theorem dX9_lose_30 : decode cX9_lose 30 = .ok (.iconst 0, 1) := by decide +kernel
theorem dX9_lose_31 : decode cX9_lose 31 = .ok (.bastore, 1) := by decide +kernel
theorem dX9_lose_32 : decode cX9_lose 32 = .ok (.aload_n 0, 1) := by decide +kernel
theorem dX9_lose_33 : decode cX9_lose 33 = .ok (.getfield 97, 3) := by decide +kernel
theorem dX9_lose_36 : decode cX9_lose 36 = .ok (.iload_n 1, 1) := by decide +kernel
theorem dX9_lose_37 : decode cX9_lose 37 = .ok (.iaload, 1) := by decide +kernel
theorem dX9_lose_38 : decode cX9_lose 38 = .ok (.ireturn, 1) := by decide +kernel
theorem dX9_lacks_0 : decode cX9_lacks 0 = .ok (.aload_n 0, 1) := by decide +kernel
theorem dX9_lacks_1 : decode cX9_lacks 1 = .ok (.getfield 91, 3) := by decide +kernel
theorem dX9_lacks_4 : decode cX9_lacks 4 = .ok (.iload_n 1, 1) := by decide +kernel
theorem dX9_lacks_5 : decode cX9_lacks 5 = .ok (.baload, 1) := by decide +kernel
theorem dX9_lacks_6 : decode cX9_lacks 6 = .ok (.ifCond .ne 7, 3) := by decide +kernel
theorem dX9_lacks_9 : decode cX9_lacks 9 = .ok (.iconst 1, 1) := by decide +kernel
theorem dX9_lacks_10 : decode cX9_lacks 10 = .ok (.goto 40, 3) := by decide +kernel
theorem dX9_lacks_13 : decode cX9_lacks 13 = .ok (.aload_n 0, 1) := by decide +kernel
theorem dX9_lacks_14 : decode cX9_lacks 14 = .ok (.getfield 94, 3) := by decide +kernel
theorem dX9_lacks_17 : decode cX9_lacks 17 = .ok (.iload_n 1, 1) := by decide +kernel
theorem dX9_lacks_18 : decode cX9_lacks 18 = .ok (.iaload, 1) := by decide +kernel
theorem dX9_lacks_19 : decode cX9_lacks 19 = .ok (.iload_n 2, 1) := by decide +kernel
theorem dX9_lacks_20 : decode cX9_lacks 20 = .ok (.if_icmp .eq 7, 3) := by decide +kernel
theorem dX9_lacks_23 : decode cX9_lacks 23 = .ok (.iconst 3, 1) := by decide +kernel
theorem dX9_lacks_24 : decode cX9_lacks 24 = .ok (.goto 26, 3) := by decide +kernel
theorem dX9_lacks_27 : decode cX9_lacks 27 = .ok (.iload_n 3, 1) := by decide +kernel
theorem dX9_lacks_28 : decode cX9_lacks 28 = .ok (.i2l, 1) := by decide +kernel
theorem dX9_lacks_29 : decode cX9_lacks 29 = .ok (.lconst 0, 1) := by decide +kernel
theorem dX9_lacks_30 : decode cX9_lacks 30 = .ok (.aload_n 0, 1) := by decide +kernel
theorem dX9_lacks_31 : decode cX9_lacks 31 = .ok (.getfield 97, 3) := by decide +kernel
theorem dX9_lacks_34 : decode cX9_lacks 34 = .ok (.iload_n 1, 1) := by decide +kernel
theorem dX9_lacks_35 : decode cX9_lacks 35 = .ok (.iaload, 1) := by decide +kernel
theorem dX9_lacks_36 : decode cX9_lacks 36 = .ok (.iconst 1, 1) := by decide +kernel
theorem dX9_lacks_37 : decode cX9_lacks 37 = .ok (.isub, 1) := by decide +kernel
theorem dX9_lacks_38 : decode cX9_lacks 38 = .ok (.i2l, 1) := by decide +kernel
theorem dX9_lacks_39 : decode cX9_lacks 39 = .ok (.invokestatic 106, 3) := by decide +kernel
theorem dX9_lacks_42 : decode cX9_lacks 42 = .ok (.ifCond .eq 7, 3) := by decide +kernel
theorem dX9_lacks_45 : decode cX9_lacks 45 = .ok (.iconst 0, 1) := by decide +kernel
theorem dX9_lacks_46 : decode cX9_lacks 46 = .ok (.goto 4, 3) := by decide +kernel
theorem dX9_lacks_49 : decode cX9_lacks 49 = .ok (.iconst 2, 1) := by decide +kernel
theorem dX9_lacks_50 : decode cX9_lacks 50 = .ok (.ireturn, 1) := by decide +kernel
theorem dX9_lay_0 : decode cX9_lay 0 = .ok (.aload_n 0, 1) := by decide +kernel
theorem dX9_lay_1 : decode cX9_lay 1 = .ok (.getfield 100, 3) := by decide +kernel
theorem dX9_lay_4 : decode cX9_lay 4 = .ok (.bipush 60, 2) := by decide +kernel
theorem dX9_lay_6 : decode cX9_lay 6 = .ok (.iload_n 1, 1) := by decide +kernel
theorem dX9_lay_7 : decode cX9_lay 7 = .ok (.imul, 1) := by decide +kernel
theorem dX9_lay_8 : decode cX9_lay 8 = .ok (.iload_n 2, 1) := by decide +kernel
theorem dX9_lay_9 : decode cX9_lay 9 = .ok (.iadd, 1) := by decide +kernel
theorem dX9_lay_10 : decode cX9_lay 10 = .ok (.aload_n 0, 1) := by decide +kernel
theorem dX9_lay_11 : decode cX9_lay 11 = .ok (.getfield 94, 3) := by decide +kernel
theorem dX9_lay_14 : decode cX9_lay 14 = .ok (.iload_n 1, 1) := by decide +kernel
theorem dX9_lay_15 : decode cX9_lay 15 = .ok (.iaload, 1) := by decide +kernel
theorem dX9_lay_16 : decode cX9_lay 16 = .ok (.ifCond .ne 9, 3) := by decide +kernel
theorem dX9_lay_19 : decode cX9_lay 19 = .ok (.lload_n 3, 1) := by decide +kernel
theorem dX9_lay_20 : decode cX9_lay 20 = .ok (.l2i, 1) := by decide +kernel
theorem dX9_lay_21 : decode cX9_lay 21 = .ok (.i2b, 1) := by decide +kernel
theorem dX9_lay_22 : decode cX9_lay 22 = .ok (.goto 21, 3) := by decide +kernel
theorem dX9_lay_25 : decode cX9_lay 25 = .ok (.aload_n 0, 1) := by decide +kernel
theorem dX9_lay_26 : decode cX9_lay 26 = .ok (.getfield 94, 3) := by decide +kernel
theorem dX9_lay_29 : decode cX9_lay 29 = .ok (.iload_n 1, 1) := by decide +kernel
theorem dX9_lay_30 : decode cX9_lay 30 = .ok (.iaload, 1) := by decide +kernel
theorem dX9_lay_31 : decode cX9_lay 31 = .ok (.iconst 1, 1) := by decide +kernel
theorem dX9_lay_32 : decode cX9_lay 32 = .ok (.if_icmp .ne 9, 3) := by decide +kernel
theorem dX9_lay_35 : decode cX9_lay 35 = .ok (.lload_n 3, 1) := by decide +kernel
theorem dX9_lay_36 : decode cX9_lay 36 = .ok (.l2i, 1) := by decide +kernel
theorem dX9_lay_37 : decode cX9_lay 37 = .ok (.i2s, 1) := by decide +kernel
theorem dX9_lay_38 : decode cX9_lay 38 = .ok (.goto 5, 3) := by decide +kernel
theorem dX9_lay_41 : decode cX9_lay 41 = .ok (.lload_n 3, 1) := by decide +kernel
theorem dX9_lay_42 : decode cX9_lay 42 = .ok (.l2i, 1) := by decide +kernel
theorem dX9_lay_43 : decode cX9_lay 43 = .ok (.iastore, 1) := by decide +kernel
theorem dX9_lay_44 : decode cX9_lay 44 = .ok (.return_, 1) := by decide +kernel
theorem dX9_put_0 : decode cX9_put 0 = .ok (.iload_n 1, 1) := by decide +kernel
theorem dX9_put_1 : decode cX9_put 1 = .ok (.invokestatic 356, 3) := by decide +kernel
theorem dX9_put_4 : decode cX9_put 4 = .ok (.ifCond .eq 15, 3) := by decide +kernel
theorem dX9_put_7 : decode cX9_put 7 = .ok (.iload_n 2, 1) := by decide +kernel
theorem dX9_put_8 : decode cX9_put 8 = .ok (.i2l, 1) := by decide +kernel
theorem dX9_put_9 : decode cX9_put 9 = .ok (.lconst 0, 1) := by decide +kernel
theorem dX9_put_10 : decode cX9_put 10 = .ok (.ldc2_w 128, 3) := by decide +kernel
theorem dX9_put_13 : decode cX9_put 13 = .ok (.invokestatic 106, 3) := by decide +kernel
theorem dX9_put_16 : decode cX9_put 16 = .ok (.ifCond .ne 6, 3) := by decide +kernel
theorem dX9_put_19 : decode cX9_put 19 = .ok (.bipush (-2), 2) := by decide +kernel
theorem dX9_put_21 : decode cX9_put 21 = .ok (.ireturn, 1) := by decide +kernel
theorem dX9_put_22 : decode cX9_put 22 = .ok (.aload_n 0, 1) := by decide +kernel
theorem dX9_put_23 : decode cX9_put 23 = .ok (.iload_n 1, 1) := by decide +kernel
theorem dX9_put_24 : decode cX9_put 24 = .ok (.iload_n 2, 1) := by decide +kernel
theorem dX9_put_25 : decode cX9_put 25 = .ok (.iload_n 3, 1) := by decide +kernel
theorem dX9_put_26 : decode cX9_put 26 = .ok (.invokevirtual 362, 3) := by decide +kernel
theorem dX9_put_29 : decode cX9_put 29 = .ok (.istore 5, 2) := by decide +kernel
theorem dX9_put_31 : decode cX9_put 31 = .ok (.iload 5, 2) := by decide +kernel
theorem dX9_put_33 : decode cX9_put 33 = .ok (.ifCond .le 10, 3) := by decide +kernel
theorem dX9_put_36 : decode cX9_put 36 = .ok (.aload_n 0, 1) := by decide +kernel
theorem dX9_put_37 : decode cX9_put 37 = .ok (.iload 5, 2) := by decide +kernel
theorem dX9_put_39 : decode cX9_put 39 = .ok (.invokevirtual 359, 3) := by decide +kernel
theorem dX9_put_42 : decode cX9_put 42 = .ok (.ireturn, 1) := by decide +kernel
theorem dX9_put_43 : decode cX9_put 43 = .ok (.aload_n 0, 1) := by decide +kernel
theorem dX9_put_44 : decode cX9_put 44 = .ok (.iload_n 1, 1) := by decide +kernel
theorem dX9_put_45 : decode cX9_put 45 = .ok (.iload_n 3, 1) := by decide +kernel
theorem dX9_put_46 : decode cX9_put 46 = .ok (.iload 4, 2) := by decide +kernel
theorem dX9_put_48 : decode cX9_put 48 = .ok (.i2l, 1) := by decide +kernel
theorem dX9_put_49 : decode cX9_put 49 = .ok (.invokevirtual 365, 3) := by decide +kernel
theorem dX9_put_52 : decode cX9_put 52 = .ok (.iconst 1, 1) := by decide +kernel
theorem dX9_put_53 : decode cX9_put 53 = .ok (.ireturn, 1) := by decide +kernel
theorem dX9_get_0 : decode cX9_get 0 = .ok (.iload_n 1, 1) := by decide +kernel
theorem dX9_get_1 : decode cX9_get 1 = .ok (.invokestatic 356, 3) := by decide +kernel
theorem dX9_get_4 : decode cX9_get 4 = .ok (.ifCond .eq 15, 3) := by decide +kernel
theorem dX9_get_7 : decode cX9_get 7 = .ok (.iload_n 2, 1) := by decide +kernel
theorem dX9_get_8 : decode cX9_get 8 = .ok (.i2l, 1) := by decide +kernel
theorem dX9_get_9 : decode cX9_get 9 = .ok (.lconst 0, 1) := by decide +kernel
theorem dX9_get_10 : decode cX9_get 10 = .ok (.ldc2_w 128, 3) := by decide +kernel
theorem dX9_get_13 : decode cX9_get 13 = .ok (.invokestatic 106, 3) := by decide +kernel
theorem dX9_get_16 : decode cX9_get 16 = .ok (.ifCond .ne 7, 3) := by decide +kernel
theorem dX9_get_19 : decode cX9_get 19 = .ok (.ldc_w 369, 3) := by decide +kernel
theorem dX9_get_22 : decode cX9_get 22 = .ok (.ireturn, 1) := by decide +kernel
theorem dX9_get_23 : decode cX9_get 23 = .ok (.aload_n 0, 1) := by decide +kernel
theorem dX9_get_24 : decode cX9_get 24 = .ok (.iload_n 1, 1) := by decide +kernel
theorem dX9_get_25 : decode cX9_get 25 = .ok (.iload_n 2, 1) := by decide +kernel
theorem dX9_get_26 : decode cX9_get 26 = .ok (.iload_n 3, 1) := by decide +kernel
theorem dX9_get_27 : decode cX9_get 27 = .ok (.invokevirtual 362, 3) := by decide +kernel
theorem dX9_get_30 : decode cX9_get 30 = .ok (.istore 4, 2) := by decide +kernel
theorem dX9_get_32 : decode cX9_get 32 = .ok (.iload 4, 2) := by decide +kernel
theorem dX9_get_34 : decode cX9_get 34 = .ok (.ifCond .le 13, 3) := by decide +kernel
theorem dX9_get_37 : decode cX9_get 37 = .ok (.aload_n 0, 1) := by decide +kernel
theorem dX9_get_38 : decode cX9_get 38 = .ok (.iload 4, 2) := by decide +kernel
theorem dX9_get_40 : decode cX9_get 40 = .ok (.putfield 353, 3) := by decide +kernel
theorem dX9_get_43 : decode cX9_get 43 = .ok (.ldc_w 369, 3) := by decide +kernel
theorem dX9_get_46 : decode cX9_get 46 = .ok (.ireturn, 1) := by decide +kernel
theorem dX9_get_47 : decode cX9_get 47 = .ok (.aload_n 0, 1) := by decide +kernel
theorem dX9_get_48 : decode cX9_get 48 = .ok (.getfield 100, 3) := by decide +kernel
theorem dX9_get_51 : decode cX9_get 51 = .ok (.bipush 60, 2) := by decide +kernel
theorem dX9_get_53 : decode cX9_get 53 = .ok (.iload_n 1, 1) := by decide +kernel
theorem dX9_get_54 : decode cX9_get 54 = .ok (.imul, 1) := by decide +kernel
theorem dX9_get_55 : decode cX9_get 55 = .ok (.iload_n 3, 1) := by decide +kernel
theorem dX9_get_56 : decode cX9_get 56 = .ok (.iadd, 1) := by decide +kernel
theorem dX9_get_57 : decode cX9_get 57 = .ok (.iaload, 1) := by decide +kernel
theorem dX9_get_58 : decode cX9_get 58 = .ok (.ireturn, 1) := by decide +kernel
theorem dX9_copy_0 : decode cX9_copy 0 = .ok (.iload_n 1, 1) := by decide +kernel
theorem dX9_copy_1 : decode cX9_copy 1 = .ok (.invokestatic 356, 3) := by decide +kernel
theorem dX9_copy_4 : decode cX9_copy 4 = .ok (.ifCond .eq 10, 3) := by decide +kernel
theorem dX9_copy_7 : decode cX9_copy 7 = .ok (.iload_n 3, 1) := by decide +kernel
theorem dX9_copy_8 : decode cX9_copy 8 = .ok (.invokestatic 356, 3) := by decide +kernel
theorem dX9_copy_11 : decode cX9_copy 11 = .ok (.ifCond .ne 6, 3) := by decide +kernel
theorem dX9_copy_14 : decode cX9_copy 14 = .ok (.bipush (-2), 2) := by decide +kernel
theorem dX9_copy_16 : decode cX9_copy 16 = .ok (.ireturn, 1) := by decide +kernel
theorem dX9_copy_17 : decode cX9_copy 17 = .ok (.aload_n 0, 1) := by decide +kernel
theorem dX9_copy_18 : decode cX9_copy 18 = .ok (.getfield 91, 3) := by decide +kernel
theorem dX9_copy_21 : decode cX9_copy 21 = .ok (.iload_n 1, 1) := by decide +kernel
theorem dX9_copy_22 : decode cX9_copy 22 = .ok (.baload, 1) := by decide +kernel
theorem dX9_copy_23 : decode cX9_copy 23 = .ok (.ifCond .eq 12, 3) := by decide +kernel
theorem dX9_copy_26 : decode cX9_copy 26 = .ok (.aload_n 0, 1) := by decide +kernel
theorem dX9_copy_27 : decode cX9_copy 27 = .ok (.getfield 91, 3) := by decide +kernel
theorem dX9_copy_30 : decode cX9_copy 30 = .ok (.iload_n 3, 1) := by decide +kernel
theorem dX9_copy_31 : decode cX9_copy 31 = .ok (.baload, 1) := by decide +kernel
theorem dX9_copy_32 : decode cX9_copy 32 = .ok (.ifCond .ne 9, 3) := by decide +kernel
theorem dX9_copy_35 : decode cX9_copy 35 = .ok (.aload_n 0, 1) := by decide +kernel
theorem dX9_copy_36 : decode cX9_copy 36 = .ok (.iconst 1, 1) := by decide +kernel
theorem dX9_copy_37 : decode cX9_copy 37 = .ok (.invokevirtual 359, 3) := by decide +kernel
theorem dX9_copy_40 : decode cX9_copy 40 = .ok (.ireturn, 1) := by decide +kernel
theorem dX9_copy_41 : decode cX9_copy 41 = .ok (.aload_n 0, 1) := by decide +kernel
theorem dX9_copy_42 : decode cX9_copy 42 = .ok (.getfield 94, 3) := by decide +kernel
theorem dX9_copy_45 : decode cX9_copy 45 = .ok (.iload_n 1, 1) := by decide +kernel
theorem dX9_copy_46 : decode cX9_copy 46 = .ok (.iaload, 1) := by decide +kernel
theorem dX9_copy_47 : decode cX9_copy 47 = .ok (.aload_n 0, 1) := by decide +kernel
theorem dX9_copy_48 : decode cX9_copy 48 = .ok (.getfield 94, 3) := by decide +kernel
theorem dX9_copy_51 : decode cX9_copy 51 = .ok (.iload_n 3, 1) := by decide +kernel
theorem dX9_copy_52 : decode cX9_copy 52 = .ok (.iaload, 1) := by decide +kernel
theorem dX9_copy_53 : decode cX9_copy 53 = .ok (.if_icmp .eq 9, 3) := by decide +kernel
theorem dX9_copy_56 : decode cX9_copy 56 = .ok (.aload_n 0, 1) := by decide +kernel
theorem dX9_copy_57 : decode cX9_copy 57 = .ok (.iconst 4, 1) := by decide +kernel
theorem dX9_copy_58 : decode cX9_copy 58 = .ok (.invokevirtual 359, 3) := by decide +kernel
theorem dX9_copy_61 : decode cX9_copy 61 = .ok (.ireturn, 1) := by decide +kernel
theorem dX9_copy_62 : decode cX9_copy 62 = .ok (.iload_n 2, 1) := by decide +kernel
theorem dX9_copy_63 : decode cX9_copy 63 = .ok (.ifCond .lt 48, 3) := by decide +kernel
theorem dX9_copy_66 : decode cX9_copy 66 = .ok (.iload 4, 2) := by decide +kernel
theorem dX9_copy_68 : decode cX9_copy 68 = .ok (.ifCond .lt 43, 3) := by decide +kernel
theorem dX9_copy_71 : decode cX9_copy 71 = .ok (.iload 5, 2) := by decide +kernel
theorem dX9_copy_73 : decode cX9_copy 73 = .ok (.ifCond .lt 38, 3) := by decide +kernel
theorem dX9_copy_76 : decode cX9_copy 76 = .ok (.iload_n 2, 1) := by decide +kernel
theorem dX9_copy_77 : decode cX9_copy 77 = .ok (.i2l, 1) := by decide +kernel
theorem dX9_copy_78 : decode cX9_copy 78 = .ok (.iload 5, 2) := by decide +kernel
theorem dX9_copy_80 : decode cX9_copy 80 = .ok (.i2l, 1) := by decide +kernel
theorem dX9_copy_81 : decode cX9_copy 81 = .ok (.ladd, 1) := by decide +kernel
theorem dX9_copy_82 : decode cX9_copy 82 = .ok (.aload_n 0, 1) := by decide +kernel
theorem dX9_copy_83 : decode cX9_copy 83 = .ok (.getfield 97, 3) := by decide +kernel
theorem dX9_copy_86 : decode cX9_copy 86 = .ok (.iload_n 1, 1) := by decide +kernel
theorem dX9_copy_87 : decode cX9_copy 87 = .ok (.iaload, 1) := by decide +kernel
theorem dX9_copy_88 : decode cX9_copy 88 = .ok (.i2l, 1) := by decide +kernel
theorem dX9_copy_89 : decode cX9_copy 89 = .ok (.lcmp, 1) := by decide +kernel
theorem dX9_copy_90 : decode cX9_copy 90 = .ok (.ifCond .gt 21, 3) := by decide +kernel
theorem dX9_copy_93 : decode cX9_copy 93 = .ok (.iload 4, 2) := by decide +kernel
theorem dX9_copy_95 : decode cX9_copy 95 = .ok (.i2l, 1) := by decide +kernel
theorem dX9_copy_96 : decode cX9_copy 96 = .ok (.iload 5, 2) := by decide +kernel
theorem dX9_copy_98 : decode cX9_copy 98 = .ok (.i2l, 1) := by decide +kernel
theorem dX9_copy_99 : decode cX9_copy 99 = .ok (.ladd, 1) := by decide +kernel
theorem dX9_copy_100 : decode cX9_copy 100 = .ok (.aload_n 0, 1) := by decide +kernel
theorem dX9_copy_101 : decode cX9_copy 101 = .ok (.getfield 97, 3) := by decide +kernel
theorem dX9_copy_104 : decode cX9_copy 104 = .ok (.iload_n 3, 1) := by decide +kernel
theorem dX9_copy_105 : decode cX9_copy 105 = .ok (.iaload, 1) := by decide +kernel
theorem dX9_copy_106 : decode cX9_copy 106 = .ok (.i2l, 1) := by decide +kernel
theorem dX9_copy_107 : decode cX9_copy 107 = .ok (.lcmp, 1) := by decide +kernel
theorem dX9_copy_108 : decode cX9_copy 108 = .ok (.ifCond .le 9, 3) := by decide +kernel
theorem dX9_copy_111 : decode cX9_copy 111 = .ok (.aload_n 0, 1) := by decide +kernel
theorem dX9_copy_112 : decode cX9_copy 112 = .ok (.iconst 2, 1) := by decide +kernel
theorem dX9_copy_113 : decode cX9_copy 113 = .ok (.invokevirtual 359, 3) := by decide +kernel
theorem dX9_copy_116 : decode cX9_copy 116 = .ok (.ireturn, 1) := by decide +kernel
theorem dX9_copy_117 : decode cX9_copy 117 = .ok (.iconst 0, 1) := by decide +kernel
theorem dX9_copy_118 : decode cX9_copy 118 = .ok (.istore 6, 2) := by decide +kernel
theorem dX9_copy_120 : decode cX9_copy 120 = .ok (.iload 6, 2) := by decide +kernel
theorem dX9_copy_122 : decode cX9_copy 122 = .ok (.iload 5, 2) := by decide +kernel
theorem dX9_copy_124 : decode cX9_copy 124 = .ok (.if_icmp .ge 30, 3) := by decide +kernel
theorem dX9_copy_127 : decode cX9_copy 127 = .ok (.aload_n 0, 1) := by decide +kernel
theorem dX9_copy_128 : decode cX9_copy 128 = .ok (.getfield 103, 3) := by decide +kernel
theorem dX9_copy_131 : decode cX9_copy 131 = .ok (.iload 6, 2) := by decide +kernel
theorem dX9_copy_133 : decode cX9_copy 133 = .ok (.aload_n 0, 1) := by decide +kernel
theorem dX9_copy_134 : decode cX9_copy 134 = .ok (.getfield 100, 3) := by decide +kernel
theorem dX9_copy_137 : decode cX9_copy 137 = .ok (.bipush 60, 2) := by decide +kernel
theorem dX9_copy_139 : decode cX9_copy 139 = .ok (.iload_n 1, 1) := by decide +kernel
theorem dX9_copy_140 : decode cX9_copy 140 = .ok (.imul, 1) := by decide +kernel
theorem dX9_copy_141 : decode cX9_copy 141 = .ok (.iload_n 2, 1) := by decide +kernel
theorem dX9_copy_142 : decode cX9_copy 142 = .ok (.iadd, 1) := by decide +kernel
theorem dX9_copy_143 : decode cX9_copy 143 = .ok (.iload 6, 2) := by decide +kernel
theorem dX9_copy_145 : decode cX9_copy 145 = .ok (.iadd, 1) := by decide +kernel
theorem dX9_copy_146 : decode cX9_copy 146 = .ok (.iaload, 1) := by decide +kernel
theorem dX9_copy_147 : decode cX9_copy 147 = .ok (.iastore, 1) := by decide +kernel
theorem dX9_copy_148 : decode cX9_copy 148 = .ok (.iinc 6 1, 3) := by decide +kernel
theorem dX9_copy_151 : decode cX9_copy 151 = .ok (.goto (-31), 3) := by decide +kernel
theorem dX9_copy_154 : decode cX9_copy 154 = .ok (.iconst 0, 1) := by decide +kernel
theorem dX9_copy_155 : decode cX9_copy 155 = .ok (.istore 6, 2) := by decide +kernel
theorem dX9_copy_157 : decode cX9_copy 157 = .ok (.iload 6, 2) := by decide +kernel
theorem dX9_copy_159 : decode cX9_copy 159 = .ok (.iload 5, 2) := by decide +kernel
theorem dX9_copy_161 : decode cX9_copy 161 = .ok (.if_icmp .ge 31, 3) := by decide +kernel
theorem dX9_copy_164 : decode cX9_copy 164 = .ok (.aload_n 0, 1) := by decide +kernel
theorem dX9_copy_165 : decode cX9_copy 165 = .ok (.getfield 100, 3) := by decide +kernel
theorem dX9_copy_168 : decode cX9_copy 168 = .ok (.bipush 60, 2) := by decide +kernel
theorem dX9_copy_170 : decode cX9_copy 170 = .ok (.iload_n 3, 1) := by decide +kernel
theorem dX9_copy_171 : decode cX9_copy 171 = .ok (.imul, 1) := by decide +kernel
theorem dX9_copy_172 : decode cX9_copy 172 = .ok (.iload 4, 2) := by decide +kernel
theorem dX9_copy_174 : decode cX9_copy 174 = .ok (.iadd, 1) := by decide +kernel
theorem dX9_copy_175 : decode cX9_copy 175 = .ok (.iload 6, 2) := by decide +kernel
theorem dX9_copy_177 : decode cX9_copy 177 = .ok (.iadd, 1) := by decide +kernel
theorem dX9_copy_178 : decode cX9_copy 178 = .ok (.aload_n 0, 1) := by decide +kernel
theorem dX9_copy_179 : decode cX9_copy 179 = .ok (.getfield 103, 3) := by decide +kernel
theorem dX9_copy_182 : decode cX9_copy 182 = .ok (.iload 6, 2) := by decide +kernel
theorem dX9_copy_184 : decode cX9_copy 184 = .ok (.iaload, 1) := by decide +kernel
theorem dX9_copy_185 : decode cX9_copy 185 = .ok (.iastore, 1) := by decide +kernel
theorem dX9_copy_186 : decode cX9_copy 186 = .ok (.iinc 6 1, 3) := by decide +kernel
theorem dX9_copy_189 : decode cX9_copy 189 = .ok (.goto (-32), 3) := by decide +kernel
theorem dX9_copy_192 : decode cX9_copy 192 = .ok (.iconst 1, 1) := by decide +kernel
theorem dX9_copy_193 : decode cX9_copy 193 = .ok (.ireturn, 1) := by decide +kernel
theorem dX9_read_0 : decode cX9_read 0 = .ok (.iload_n 1, 1) := by decide +kernel
theorem dX9_read_1 : decode cX9_read 1 = .ok (.invokestatic 356, 3) := by decide +kernel
theorem dX9_read_4 : decode cX9_read 4 = .ok (.ifCond .ne 6, 3) := by decide +kernel
theorem dX9_read_7 : decode cX9_read 7 = .ok (.bipush (-2), 2) := by decide +kernel
theorem dX9_read_9 : decode cX9_read 9 = .ok (.ireturn, 1) := by decide +kernel
theorem dX9_read_10 : decode cX9_read 10 = .ok (.aload_n 0, 1) := by decide +kernel
theorem dX9_read_11 : decode cX9_read 11 = .ok (.getfield 91, 3) := by decide +kernel
theorem dX9_read_14 : decode cX9_read 14 = .ok (.iload_n 1, 1) := by decide +kernel
theorem dX9_read_15 : decode cX9_read 15 = .ok (.baload, 1) := by decide +kernel
theorem dX9_read_16 : decode cX9_read 16 = .ok (.ifCond .ne 9, 3) := by decide +kernel
theorem dX9_read_19 : decode cX9_read 19 = .ok (.aload_n 0, 1) := by decide +kernel
theorem dX9_read_20 : decode cX9_read 20 = .ok (.iconst 1, 1) := by decide +kernel
theorem dX9_read_21 : decode cX9_read 21 = .ok (.invokevirtual 359, 3) := by decide +kernel
theorem dX9_read_24 : decode cX9_read 24 = .ok (.ireturn, 1) := by decide +kernel
theorem dX9_read_25 : decode cX9_read 25 = .ok (.iconst 0, 1) := by decide +kernel
theorem dX9_read_26 : decode cX9_read 26 = .ok (.istore_n 2, 1) := by decide +kernel
theorem dX9_read_27 : decode cX9_read 27 = .ok (.bipush 60, 2) := by decide +kernel
theorem dX9_read_29 : decode cX9_read 29 = .ok (.iload_n 1, 1) := by decide +kernel
theorem dX9_read_30 : decode cX9_read 30 = .ok (.imul, 1) := by decide +kernel
theorem dX9_read_31 : decode cX9_read 31 = .ok (.istore_n 3, 1) := by decide +kernel
theorem dX9_read_32 : decode cX9_read 32 = .ok (.iload_n 3, 1) := by decide +kernel
theorem dX9_read_33 : decode cX9_read 33 = .ok (.iconst 3, 1) := by decide +kernel
theorem dX9_read_34 : decode cX9_read 34 = .ok (.iadd, 1) := by decide +kernel
theorem dX9_read_35 : decode cX9_read 35 = .ok (.bipush 60, 2) := by decide +kernel
theorem dX9_read_37 : decode cX9_read 37 = .ok (.iload_n 1, 1) := by decide +kernel
theorem dX9_read_38 : decode cX9_read 38 = .ok (.imul, 1) := by decide +kernel
theorem dX9_read_39 : decode cX9_read 39 = .ok (.aload_n 0, 1) := by decide +kernel
theorem dX9_read_40 : decode cX9_read 40 = .ok (.getfield 97, 3) := by decide +kernel
theorem dX9_read_43 : decode cX9_read 43 = .ok (.iload_n 1, 1) := by decide +kernel
theorem dX9_read_44 : decode cX9_read 44 = .ok (.iaload, 1) := by decide +kernel
theorem dX9_read_45 : decode cX9_read 45 = .ok (.iadd, 1) := by decide +kernel
theorem dX9_read_46 : decode cX9_read 46 = .ok (.if_icmp .ge 51, 3) := by decide +kernel
theorem dX9_read_49 : decode cX9_read 49 = .ok (.aload_n 0, 1) := by decide +kernel
theorem dX9_read_50 : decode cX9_read 50 = .ok (.aload_n 0, 1) := by decide +kernel
theorem dX9_read_51 : decode cX9_read 51 = .ok (.getfield 100, 3) := by decide +kernel
theorem dX9_read_54 : decode cX9_read 54 = .ok (.iload_n 3, 1) := by decide +kernel
theorem dX9_read_55 : decode cX9_read 55 = .ok (.iaload, 1) := by decide +kernel
theorem dX9_read_56 : decode cX9_read 56 = .ok (.aload_n 0, 1) := by decide +kernel
