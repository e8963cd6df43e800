theorem d_S_dual_0 : decode b_S_dual 0 = .ok (.iload_n 1, 1) := by decide +kernel
theorem d_S_dual_1 : decode b_S_dual 1 = .ok (.ifCond .eq 18, 3) := by decide +kernel
theorem d_S_dual_4 : decode b_S_dual 4 = .ok (.iload_n 1, 1) := by decide +kernel
theorem d_S_dual_5 : decode b_S_dual 5 = .ok (.iconst 1, 1) := by decide +kernel
theorem d_S_dual_6 : decode b_S_dual 6 = .ok (.if_icmp .eq 13, 3) := by decide +kernel
theorem d_S_dual_9 : decode b_S_dual 9 = .ok (.new 130, 3) := by decide +kernel
theorem d_S_dual_12 : decode b_S_dual 12 = .ok (.dup, 1) := by decide +kernel
theorem d_S_dual_13 : decode b_S_dual 13 = .ok (.ldc 132, 2) := by decide +kernel
theorem d_S_dual_15 : decode b_S_dual 15 = .ok (.invokespecial 134, 3) := by decide +kernel
theorem d_S_dual_18 : decode b_S_dual 18 = .ok (.athrow, 1) := by decide +kernel
theorem d_S_dual_19 : decode b_S_dual 19 = .ok (.iload_n 1, 1) := by decide +kernel
theorem d_S_dual_20 : decode b_S_dual 20 = .ok (.ifCond .ne 10, 3) := by decide +kernel
theorem d_S_dual_23 : decode b_S_dual 23 = .ok (.aload_n 0, 1) := by decide +kernel
theorem d_S_dual_24 : decode b_S_dual 24 = .ok (.getfield 10, 3) := by decide +kernel
theorem d_S_dual_27 : decode b_S_dual 27 = .ok (.goto 7, 3) := by decide +kernel
theorem d_S_dual_30 : decode b_S_dual 30 = .ok (.aload_n 0, 1) := by decide +kernel
theorem d_S_dual_31 : decode b_S_dual 31 = .ok (.getfield 16, 3) := by decide +kernel
theorem d_S_dual_34 : decode b_S_dual 34 = .ok (.astore_n 3, 1) := by decide +kernel
theorem d_S_dual_35 : decode b_S_dual 35 = .ok (.aload_n 3, 1) := by decide +kernel
theorem d_S_dual_36 : decode b_S_dual 36 = .ok (.iload_n 2, 1) := by decide +kernel
theorem d_S_dual_37 : decode b_S_dual 37 = .ok (.invokevirtual 135, 3) := by decide +kernel
theorem d_S_dual_40 : decode b_S_dual 40 = .ok (.ifCond .ne 13, 3) := by decide +kernel
theorem d_S_dual_43 : decode b_S_dual 43 = .ok (.new 130, 3) := by decide +kernel
theorem d_S_dual_46 : decode b_S_dual 46 = .ok (.dup, 1) := by decide +kernel
theorem d_S_dual_47 : decode b_S_dual 47 = .ok (.ldc 139, 2) := by decide +kernel
theorem d_S_dual_49 : decode b_S_dual 49 = .ok (.invokespecial 134, 3) := by decide +kernel
theorem d_S_dual_52 : decode b_S_dual 52 = .ok (.athrow, 1) := by decide +kernel
theorem d_S_dual_53 : decode b_S_dual 53 = .ok (.aload_n 0, 1) := by decide +kernel
theorem d_S_dual_54 : decode b_S_dual 54 = .ok (.getfield 43, 3) := by decide +kernel
theorem d_S_dual_57 : decode b_S_dual 57 = .ok (.invokevirtual 141, 3) := by decide +kernel
theorem d_S_dual_60 : decode b_S_dual 60 = .ok (.ifCond .ne 13, 3) := by decide +kernel
theorem d_S_dual_63 : decode b_S_dual 63 = .ok (.new 145, 3) := by decide +kernel
theorem d_S_dual_66 : decode b_S_dual 66 = .ok (.dup, 1) := by decide +kernel
theorem d_S_dual_67 : decode b_S_dual 67 = .ok (.ldc 147, 2) := by decide +kernel
theorem d_S_dual_69 : decode b_S_dual 69 = .ok (.invokespecial 149, 3) := by decide +kernel
theorem d_S_dual_72 : decode b_S_dual 72 = .ok (.athrow, 1) := by decide +kernel
theorem d_S_dual_73 : decode b_S_dual 73 = .ok (.iload_n 1, 1) := by decide +kernel
theorem d_S_dual_74 : decode b_S_dual 74 = .ok (.ifCond .ne 14, 3) := by decide +kernel
theorem d_S_dual_77 : decode b_S_dual 77 = .ok (.aload_n 0, 1) := by decide +kernel
theorem d_S_dual_78 : decode b_S_dual 78 = .ok (.getfield 43, 3) := by decide +kernel
theorem d_S_dual_81 : decode b_S_dual 81 = .ok (.iload_n 2, 1) := by decide +kernel
theorem d_S_dual_82 : decode b_S_dual 82 = .ok (.invokevirtual 150, 3) := by decide +kernel
theorem d_S_dual_85 : decode b_S_dual 85 = .ok (.goto 11, 3) := by decide +kernel
theorem d_S_dual_88 : decode b_S_dual 88 = .ok (.aload_n 0, 1) := by decide +kernel
theorem d_S_dual_89 : decode b_S_dual 89 = .ok (.getfield 43, 3) := by decide +kernel
theorem d_S_dual_92 : decode b_S_dual 92 = .ok (.iload_n 2, 1) := by decide +kernel
theorem d_S_dual_93 : decode b_S_dual 93 = .ok (.invokevirtual 153, 3) := by decide +kernel
theorem d_S_dual_96 : decode b_S_dual 96 = .ok (.ireturn, 1) := by decide +kernel
theorem d_S_several_0 : decode b_S_several 0 = .ok (.aload_n 0, 1) := by decide +kernel
theorem d_S_several_1 : decode b_S_several 1 = .ok (.iload_n 1, 1) := by decide +kernel
theorem d_S_several_2 : decode b_S_several 2 = .ok (.invokevirtual 156, 3) := by decide +kernel
theorem d_S_several_5 : decode b_S_several 5 = .ok (.aload_n 0, 1) := by decide +kernel
theorem d_S_several_6 : decode b_S_several 6 = .ok (.getfield 29, 3) := by decide +kernel
theorem d_S_several_9 : decode b_S_several 9 = .ok (.iload_n 1, 1) := by decide +kernel
theorem d_S_several_10 : decode b_S_several 10 = .ok (.invokevirtual 160, 3) := by decide +kernel
theorem d_S_several_13 : decode b_S_several 13 = .ok (.ifCond .ne 14, 3) := by decide +kernel
theorem d_S_several_16 : decode b_S_several 16 = .ok (.aload_n 0, 1) := by decide +kernel
theorem d_S_several_17 : decode b_S_several 17 = .ok (.getfield 36, 3) := by decide +kernel
theorem d_S_several_20 : decode b_S_several 20 = .ok (.iload_n 1, 1) := by decide +kernel
theorem d_S_several_21 : decode b_S_several 21 = .ok (.invokevirtual 163, 3) := by decide +kernel
theorem d_S_several_24 : decode b_S_several 24 = .ok (.ifCond .eq 13, 3) := by decide +kernel
theorem d_S_several_27 : decode b_S_several 27 = .ok (.new 145, 3) := by decide +kernel
theorem d_S_several_30 : decode b_S_several 30 = .ok (.dup, 1) := by decide +kernel
theorem d_S_several_31 : decode b_S_several 31 = .ok (.ldc 166, 2) := by decide +kernel
theorem d_S_several_33 : decode b_S_several 33 = .ok (.invokespecial 149, 3) := by decide +kernel
theorem d_S_several_36 : decode b_S_several 36 = .ok (.athrow, 1) := by decide +kernel
theorem d_S_several_37 : decode b_S_several 37 = .ok (.aload_n 0, 1) := by decide +kernel
theorem d_S_several_38 : decode b_S_several 38 = .ok (.iload_n 1, 1) := by decide +kernel
theorem d_S_several_39 : decode b_S_several 39 = .ok (.invokevirtual 168, 3) := by decide +kernel
theorem d_S_several_42 : decode b_S_several 42 = .ok (.istore_n 2, 1) := by decide +kernel
theorem d_S_several_43 : decode b_S_several 43 = .ok (.iload_n 2, 1) := by decide +kernel
theorem d_S_several_44 : decode b_S_several 44 = .ok (.ifCond .eq 9, 3) := by decide +kernel
theorem d_S_several_47 : decode b_S_several 47 = .ok (.aload_n 0, 1) := by decide +kernel
theorem d_S_several_48 : decode b_S_several 48 = .ok (.iload_n 1, 1) := by decide +kernel
theorem d_S_several_49 : decode b_S_several 49 = .ok (.iload_n 2, 1) := by decide +kernel
theorem d_S_several_50 : decode b_S_several 50 = .ok (.invokevirtual 121, 3) := by decide +kernel
theorem d_S_several_53 : decode b_S_several 53 = .ok (.iload_n 2, 1) := by decide +kernel
theorem d_S_several_54 : decode b_S_several 54 = .ok (.invokestatic 171, 3) := by decide +kernel
theorem d_S_several_57 : decode b_S_several 57 = .ok (.ireturn, 1) := by decide +kernel
theorem d_S_orderOf_0 : decode b_S_orderOf 0 = .ok (.aload_n 0, 1) := by decide +kernel
theorem d_S_orderOf_1 : decode b_S_orderOf 1 = .ok (.iload_n 1, 1) := by decide +kernel
theorem d_S_orderOf_2 : decode b_S_orderOf 2 = .ok (.invokevirtual 156, 3) := by decide +kernel
theorem d_S_orderOf_5 : decode b_S_orderOf 5 = .ok (.iload_n 2, 1) := by decide +kernel
theorem d_S_orderOf_6 : decode b_S_orderOf 6 = .ok (.invokestatic 176, 3) := by decide +kernel
theorem d_S_orderOf_9 : decode b_S_orderOf 9 = .ok (.aload_n 0, 1) := by decide +kernel
theorem d_S_orderOf_10 : decode b_S_orderOf 10 = .ok (.getfield 29, 3) := by decide +kernel
theorem d_S_orderOf_13 : decode b_S_orderOf 13 = .ok (.iload_n 1, 1) := by decide +kernel
theorem d_S_orderOf_14 : decode b_S_orderOf 14 = .ok (.iload_n 2, 1) := by decide +kernel
theorem d_S_orderOf_15 : decode b_S_orderOf 15 = .ok (.invokevirtual 179, 3) := by decide +kernel
theorem d_S_orderOf_18 : decode b_S_orderOf 18 = .ok (.ireturn, 1) := by decide +kernel
theorem d_S_reserve_0 : decode b_S_reserve 0 = .ok (.aload_n 0, 1) := by decide +kernel
theorem d_S_reserve_1 : decode b_S_reserve 1 = .ok (.iload_n 1, 1) := by decide +kernel
theorem d_S_reserve_2 : decode b_S_reserve 2 = .ok (.iload_n 2, 1) := by decide +kernel
theorem d_S_reserve_3 : decode b_S_reserve 3 = .ok (.invokevirtual 65, 3) := by decide +kernel
theorem d_S_reserve_6 : decode b_S_reserve 6 = .ok (.aload_n 0, 1) := by decide +kernel
theorem d_S_reserve_7 : decode b_S_reserve 7 = .ok (.getfield 29, 3) := by decide +kernel
theorem d_S_reserve_10 : decode b_S_reserve 10 = .ok (.iload_n 1, 1) := by decide +kernel
theorem d_S_reserve_11 : decode b_S_reserve 11 = .ok (.invokevirtual 160, 3) := by decide +kernel
theorem d_S_reserve_14 : decode b_S_reserve 14 = .ok (.ifCond .ne 14, 3) := by decide +kernel
theorem d_S_reserve_17 : decode b_S_reserve 17 = .ok (.aload_n 0, 1) := by decide +kernel
theorem d_S_reserve_18 : decode b_S_reserve 18 = .ok (.getfield 29, 3) := by decide +kernel
theorem d_S_reserve_21 : decode b_S_reserve 21 = .ok (.iload_n 2, 1) := by decide +kernel
theorem d_S_reserve_22 : decode b_S_reserve 22 = .ok (.invokevirtual 182, 3) := by decide +kernel
theorem d_S_reserve_25 : decode b_S_reserve 25 = .ok (.ifCond .eq 13, 3) := by decide +kernel
theorem d_S_reserve_28 : decode b_S_reserve 28 = .ok (.new 145, 3) := by decide +kernel
theorem d_S_reserve_31 : decode b_S_reserve 31 = .ok (.dup, 1) := by decide +kernel
theorem d_S_reserve_32 : decode b_S_reserve 32 = .ok (.ldc 185, 2) := by decide +kernel
theorem d_S_reserve_34 : decode b_S_reserve 34 = .ok (.invokespecial 149, 3) := by decide +kernel
theorem d_S_reserve_37 : decode b_S_reserve 37 = .ok (.athrow, 1) := by decide +kernel
theorem d_S_reserve_38 : decode b_S_reserve 38 = .ok (.aload_n 0, 1) := by decide +kernel
theorem d_S_reserve_39 : decode b_S_reserve 39 = .ok (.getfield 36, 3) := by decide +kernel
theorem d_S_reserve_42 : decode b_S_reserve 42 = .ok (.iload_n 1, 1) := by decide +kernel
theorem d_S_reserve_43 : decode b_S_reserve 43 = .ok (.invokevirtual 163, 3) := by decide +kernel
theorem d_S_reserve_46 : decode b_S_reserve 46 = .ok (.ifCond .ne 14, 3) := by decide +kernel
theorem d_S_reserve_49 : decode b_S_reserve 49 = .ok (.aload_n 0, 1) := by decide +kernel
theorem d_S_reserve_50 : decode b_S_reserve 50 = .ok (.getfield 36, 3) := by decide +kernel
theorem d_S_reserve_53 : decode b_S_reserve 53 = .ok (.iload_n 2, 1) := by decide +kernel
theorem d_S_reserve_54 : decode b_S_reserve 54 = .ok (.invokevirtual 187, 3) := by decide +kernel
theorem d_S_reserve_57 : decode b_S_reserve 57 = .ok (.ifCond .eq 13, 3) := by decide +kernel
theorem d_S_reserve_60 : decode b_S_reserve 60 = .ok (.new 145, 3) := by decide +kernel
theorem d_S_reserve_63 : decode b_S_reserve 63 = .ok (.dup, 1) := by decide +kernel
theorem d_S_reserve_64 : decode b_S_reserve 64 = .ok (.ldc 190, 2) := by decide +kernel
theorem d_S_reserve_66 : decode b_S_reserve 66 = .ok (.invokespecial 149, 3) := by decide +kernel
theorem d_S_reserve_69 : decode b_S_reserve 69 = .ok (.athrow, 1) := by decide +kernel
theorem d_S_reserve_70 : decode b_S_reserve 70 = .ok (.iload_n 3, 1) := by decide +kernel
theorem d_S_reserve_71 : decode b_S_reserve 71 = .ok (.aload_n 0, 1) := by decide +kernel
theorem d_S_reserve_72 : decode b_S_reserve 72 = .ok (.getfield 62, 3) := by decide +kernel
theorem d_S_reserve_75 : decode b_S_reserve 75 = .ok (.sipush 9999, 3) := by decide +kernel
theorem d_S_reserve_78 : decode b_S_reserve 78 = .ok (.invokestatic 70, 3) := by decide +kernel
theorem d_S_reserve_81 : decode b_S_reserve 81 = .ok (.ifCond .ne 13, 3) := by decide +kernel
theorem d_S_reserve_84 : decode b_S_reserve 84 = .ok (.new 74, 3) := by decide +kernel
theorem d_S_reserve_87 : decode b_S_reserve 87 = .ok (.dup, 1) := by decide +kernel
theorem d_S_reserve_88 : decode b_S_reserve 88 = .ok (.ldc 192, 2) := by decide +kernel
theorem d_S_reserve_90 : decode b_S_reserve 90 = .ok (.invokespecial 78, 3) := by decide +kernel
theorem d_S_reserve_93 : decode b_S_reserve 93 = .ok (.athrow, 1) := by decide +kernel
theorem d_S_reserve_94 : decode b_S_reserve 94 = .ok (.aload_n 0, 1) := by decide +kernel
theorem d_S_reserve_95 : decode b_S_reserve 95 = .ok (.iload_n 1, 1) := by decide +kernel
theorem d_S_reserve_96 : decode b_S_reserve 96 = .ok (.iload_n 2, 1) := by decide +kernel
theorem d_S_reserve_97 : decode b_S_reserve 97 = .ok (.invokevirtual 81, 3) := by decide +kernel
theorem d_S_reserve_100 : decode b_S_reserve 100 = .ok (.aload_n 0, 1) := by decide +kernel
theorem d_S_reserve_101 : decode b_S_reserve 101 = .ok (.getfield 36, 3) := by decide +kernel
theorem d_S_reserve_104 : decode b_S_reserve 104 = .ok (.iload_n 1, 1) := by decide +kernel
theorem d_S_reserve_105 : decode b_S_reserve 105 = .ok (.iload_n 2, 1) := by decide +kernel
theorem d_S_reserve_106 : decode b_S_reserve 106 = .ok (.iload_n 3, 1) := by decide +kernel
theorem d_S_reserve_107 : decode b_S_reserve 107 = .ok (.invokevirtual 194, 3) := by decide +kernel
theorem d_S_reserve_110 : decode b_S_reserve 110 = .ok (.return_, 1) := by decide +kernel
theorem d_S_reserved_0 : decode b_S_reserved 0 = .ok (.aload_n 0, 1) := by decide +kernel
theorem d_S_reserved_1 : decode b_S_reserved 1 = .ok (.iload_n 1, 1) := by decide +kernel
theorem d_S_reserved_2 : decode b_S_reserved 2 = .ok (.invokevirtual 156, 3) := by decide +kernel
theorem d_S_reserved_5 : decode b_S_reserved 5 = .ok (.aload_n 0, 1) := by decide +kernel
theorem d_S_reserved_6 : decode b_S_reserved 6 = .ok (.getfield 36, 3) := by decide +kernel
theorem d_S_reserved_9 : decode b_S_reserved 9 = .ok (.iload_n 1, 1) := by decide +kernel
theorem d_S_reserved_10 : decode b_S_reserved 10 = .ok (.invokevirtual 198, 3) := by decide +kernel
theorem d_S_reserved_13 : decode b_S_reserved 13 = .ok (.ireturn, 1) := by decide +kernel
theorem d_S_undo_0 : decode b_S_undo 0 = .ok (.aload_n 0, 1) := by decide +kernel
theorem d_S_undo_1 : decode b_S_undo 1 = .ok (.iload_n 1, 1) := by decide +kernel
theorem d_S_undo_2 : decode b_S_undo 2 = .ok (.invokevirtual 156, 3) := by decide +kernel
theorem d_S_undo_5 : decode b_S_undo 5 = .ok (.aload_n 0, 1) := by decide +kernel
theorem d_S_undo_6 : decode b_S_undo 6 = .ok (.getfield 29, 3) := by decide +kernel
theorem d_S_undo_9 : decode b_S_undo 9 = .ok (.iload_n 1, 1) := by decide +kernel
theorem d_S_undo_10 : decode b_S_undo 10 = .ok (.invokevirtual 160, 3) := by decide +kernel
theorem d_S_undo_13 : decode b_S_undo 13 = .ok (.ifCond .ne 13, 3) := by decide +kernel
theorem d_S_undo_16 : decode b_S_undo 16 = .ok (.new 145, 3) := by decide +kernel
theorem d_S_undo_19 : decode b_S_undo 19 = .ok (.dup, 1) := by decide +kernel
theorem d_S_undo_20 : decode b_S_undo 20 = .ok (.ldc 201, 2) := by decide +kernel
theorem d_S_undo_22 : decode b_S_undo 22 = .ok (.invokespecial 149, 3) := by decide +kernel
theorem d_S_undo_25 : decode b_S_undo 25 = .ok (.athrow, 1) := by decide +kernel
theorem d_S_undo_26 : decode b_S_undo 26 = .ok (.aload_n 0, 1) := by decide +kernel
theorem d_S_undo_27 : decode b_S_undo 27 = .ok (.getfield 29, 3) := by decide +kernel
theorem d_S_undo_30 : decode b_S_undo 30 = .ok (.iload_n 1, 1) := by decide +kernel
theorem d_S_undo_31 : decode b_S_undo 31 = .ok (.invokevirtual 203, 3) := by decide +kernel
theorem d_S_undo_34 : decode b_S_undo 34 = .ok (.return_, 1) := by decide +kernel
theorem d_S_sale_0 : decode b_S_sale 0 = .ok (.iload_n 1, 1) := by decide +kernel
theorem d_S_sale_1 : decode b_S_sale 1 = .ok (.invokestatic 176, 3) := by decide +kernel
theorem d_S_sale_4 : decode b_S_sale 4 = .ok (.iconst 0, 1) := by decide +kernel
theorem d_S_sale_5 : decode b_S_sale 5 = .ok (.istore_n 2, 1) := by decide +kernel
theorem d_S_sale_6 : decode b_S_sale 6 = .ok (.iconst 0, 1) := by decide +kernel
theorem d_S_sale_7 : decode b_S_sale 7 = .ok (.istore_n 3, 1) := by decide +kernel
theorem d_S_sale_8 : decode b_S_sale 8 = .ok (.iload_n 3, 1) := by decide +kernel
theorem d_S_sale_9 : decode b_S_sale 9 = .ok (.aload_n 0, 1) := by decide +kernel
theorem d_S_sale_10 : decode b_S_sale 10 = .ok (.getfield 10, 3) := by decide +kernel
theorem d_S_sale_13 : decode b_S_sale 13 = .ok (.invokevirtual 110, 3) := by decide +kernel
theorem d_S_sale_16 : decode b_S_sale 16 = .ok (.if_icmp .ge 27, 3) := by decide +kernel
theorem d_S_sale_19 : decode b_S_sale 19 = .ok (.aload_n 0, 1) := by decide +kernel
theorem d_S_sale_20 : decode b_S_sale 20 = .ok (.iload_n 3, 1) := by decide +kernel
theorem d_S_sale_21 : decode b_S_sale 21 = .ok (.invokevirtual 206, 3) := by decide +kernel
theorem d_S_sale_24 : decode b_S_sale 24 = .ok (.ifCond .eq 13, 3) := by decide +kernel
theorem d_S_sale_27 : decode b_S_sale 27 = .ok (.iload_n 2, 1) := by decide +kernel
theorem d_S_sale_28 : decode b_S_sale 28 = .ok (.iload_n 1, 1) := by decide +kernel
theorem d_S_sale_29 : decode b_S_sale 29 = .ok (.if_icmp .ne 5, 3) := by decide +kernel
theorem d_S_sale_32 : decode b_S_sale 32 = .ok (.iload_n 3, 1) := by decide +kernel
theorem d_S_sale_33 : decode b_S_sale 33 = .ok (.ireturn, 1) := by decide +kernel
theorem d_S_sale_34 : decode b_S_sale 34 = .ok (.iinc 2 1, 3) := by decide +kernel
theorem d_S_sale_37 : decode b_S_sale 37 = .ok (.iinc 3 1, 3) := by decide +kernel
theorem d_S_sale_40 : decode b_S_sale 40 = .ok (.goto (-32), 3) := by decide +kernel
theorem d_S_sale_43 : decode b_S_sale 43 = .ok (.iconst (-1), 1) := by decide +kernel
theorem d_S_sale_44 : decode b_S_sale 44 = .ok (.ireturn, 1) := by decide +kernel
theorem d_S_tick_0 : decode b_S_tick 0 = .ok (.iload_n 1, 1) := by decide +kernel
theorem d_S_tick_1 : decode b_S_tick 1 = .ok (.iconst 1, 1) := by decide +kernel
theorem d_S_tick_2 : decode b_S_tick 2 = .ok (.sipush 1000, 3) := by decide +kernel
theorem d_S_tick_5 : decode b_S_tick 5 = .ok (.invokestatic 70, 3) := by decide +kernel
theorem d_S_tick_8 : decode b_S_tick 8 = .ok (.ifCond .ne 13, 3) := by decide +kernel
theorem d_S_tick_11 : decode b_S_tick 11 = .ok (.new 74, 3) := by decide +kernel
theorem d_S_tick_14 : decode b_S_tick 14 = .ok (.dup, 1) := by decide +kernel
theorem d_S_tick_15 : decode b_S_tick 15 = .ok (.ldc 209, 2) := by decide +kernel
theorem d_S_tick_17 : decode b_S_tick 17 = .ok (.invokespecial 78, 3) := by decide +kernel
theorem d_S_tick_20 : decode b_S_tick 20 = .ok (.athrow, 1) := by decide +kernel
theorem d_S_tick_21 : decode b_S_tick 21 = .ok (.aload_n 0, 1) := by decide +kernel
theorem d_S_tick_22 : decode b_S_tick 22 = .ok (.getfield 62, 3) := by decide +kernel
theorem d_S_tick_25 : decode b_S_tick 25 = .ok (.iload_n 1, 1) := by decide +kernel
theorem d_S_tick_26 : decode b_S_tick 26 = .ok (.iadd, 1) := by decide +kernel
theorem d_S_tick_27 : decode b_S_tick 27 = .ok (.sipush 9999, 3) := by decide +kernel
theorem d_S_tick_30 : decode b_S_tick 30 = .ok (.if_icmp .le 13, 3) := by decide +kernel
theorem d_S_tick_33 : decode b_S_tick 33 = .ok (.new 74, 3) := by decide +kernel
theorem d_S_tick_36 : decode b_S_tick 36 = .ok (.dup, 1) := by decide +kernel
theorem d_S_tick_37 : decode b_S_tick 37 = .ok (.ldc 211, 2) := by decide +kernel
theorem d_S_tick_39 : decode b_S_tick 39 = .ok (.invokespecial 78, 3) := by decide +kernel
theorem d_S_tick_42 : decode b_S_tick 42 = .ok (.athrow, 1) := by decide +kernel
theorem d_S_tick_43 : decode b_S_tick 43 = .ok (.aload_n 0, 1) := by decide +kernel
theorem d_S_tick_44 : decode b_S_tick 44 = .ok (.dup, 1) := by decide +kernel
theorem d_S_tick_45 : decode b_S_tick 45 = .ok (.getfield 62, 3) := by decide +kernel
theorem d_S_tick_48 : decode b_S_tick 48 = .ok (.iload_n 1, 1) := by decide +kernel
theorem d_S_tick_49 : decode b_S_tick 49 = .ok (.iadd, 1) := by decide +kernel
theorem d_S_tick_50 : decode b_S_tick 50 = .ok (.putfield 62, 3) := by decide +kernel
theorem d_S_tick_53 : decode b_S_tick 53 = .ok (.aload_n 0, 1) := by decide +kernel
theorem d_S_tick_54 : decode b_S_tick 54 = .ok (.getfield 36, 3) := by decide +kernel
theorem d_S_tick_57 : decode b_S_tick 57 = .ok (.aload_n 0, 1) := by decide +kernel
theorem d_S_tick_58 : decode b_S_tick 58 = .ok (.getfield 62, 3) := by decide +kernel
theorem d_S_tick_61 : decode b_S_tick 61 = .ok (.invokevirtual 213, 3) := by decide +kernel
theorem d_S_tick_64 : decode b_S_tick 64 = .ok (.aload_n 0, 1) := by decide +kernel
theorem d_S_tick_65 : decode b_S_tick 65 = .ok (.getfield 62, 3) := by decide +kernel
theorem d_S_tick_68 : decode b_S_tick 68 = .ok (.ireturn, 1) := by decide +kernel
def w_S_dual : List Cond := .code y_S_dual b_S_dual 4 (some .int) :: W0
theorem q_S_dual : y_S_dual.cls = R_S ∧ y_S_dual.cls ≠ "java/lang/invoke/MethodHandle" ∧ y_S_dual.cls ≠ "java/lang/invoke/VarHandle" ∧ (parseMethodDescriptor y_S_dual.desc).map (fun d => d.parameters.length) = some 2 := by decide +kernel
def m_S_dual (p_count : Int32) (o_count : Int32) (m_pieceDuals : Nat → Int32) (m_orderDuals : Nat → Int32) (m_upToDate : Int32) (x1 : Int32) (x2 : Int32) : Option (Nat ⊕ Int32) :=
  (if x1 = 0 then
  (if x1 = 0 then
    ((m_B_has p_count x2).bind fun r9 =>
      (if r9 = 0 then
        some (.inl 0)
       else
        ((m_M_isUpToDate m_upToDate).bind fun r10 =>
          (if r10 = 0 then
            some (.inl 1)
           else
            (if x1 = 0 then
              ((m_M_dualOfPiece m_pieceDuals x2).bind fun r13 =>
                some (.inr r13))
             else
              ((m_M_dualOfOrder m_orderDuals x2).bind fun r11 =>
                some (.inr r11)))))))
   else
    ((m_B_has o_count x2).bind fun r1 =>
      (if r1 = 0 then
        some (.inl 0)
       else
        ((m_M_isUpToDate m_upToDate).bind fun r2 =>
          (if r2 = 0 then
            some (.inl 1)
           else
            (if x1 = 0 then
              ((m_M_dualOfPiece m_pieceDuals x2).bind fun r5 =>
                some (.inr r5))
             else
              ((m_M_dualOfOrder m_orderDuals x2).bind fun r3 =>
                some (.inr r3))))))))
 else
  (if x1 = 1 then
    (if x1 = 0 then
      ((m_B_has p_count x2).bind fun r25 =>
        (if r25 = 0 then
          some (.inl 0)
         else
          ((m_M_isUpToDate m_upToDate).bind fun r26 =>
            (if r26 = 0 then
              some (.inl 1)
             else
              (if x1 = 0 then
                ((m_M_dualOfPiece m_pieceDuals x2).bind fun r29 =>
                  some (.inr r29))
               else
                ((m_M_dualOfOrder m_orderDuals x2).bind fun r27 =>
                  some (.inr r27)))))))
     else
      ((m_B_has o_count x2).bind fun r17 =>
        (if r17 = 0 then
          some (.inl 0)
         else
          ((m_M_isUpToDate m_upToDate).bind fun r18 =>
            (if r18 = 0 then
              some (.inl 1)
             else
              (if x1 = 0 then
                ((m_M_dualOfPiece m_pieceDuals x2).bind fun r21 =>
                  some (.inr r21))
               else
                ((m_M_dualOfOrder m_orderDuals x2).bind fun r19 =>
                  some (.inr r19))))))))
   else
    some (.inl 0)))
set_option maxHeartbeats 4000000 in
set_option maxRecDepth 100000 in
theorem c_S_dual (l : Launch) (dC : Nat → ClassId) (dI : Nat → Nat → Nat) (cI : ClassId) (sq pq pq1 pq2 pq3 pq4 oq oq1 oq2 oq3 oq4 sq3 sq4 uq uq1 hq hq1 hq2 mq mq1 mq2 mq3 mq4 mq5 : Nat) (p_thicks : Nat → Int32) (p_wides : Nat → Int32) (p_lengths : Nat → Int32) (p_grades : Nat → Int32) (p_count : Int32) (o_thicks : Nat → Int32) (o_wides : Nat → Int32) (o_lengths : Nat → Int32) (o_grades : Nat → Int32) (o_count : Int32) (s_cameOn : Nat → Int32) (s_told : Nat → Int32) (u_ordersOfPiece : Nat → Int32) (u_usedOrders : Int32) (h_orderOfPiece : Nat → Int32) (h_lastDay : Nat → Int32) (h_heldOrders : Int32) (m_gains : Nat → Int32) (m_best : Nat → Int32) (m_chosen : Nat → Int32) (m_pieceDuals : Nat → Int32) (m_orderDuals : Nat → Int32) (m_pieceCount : Int32) (m_orderCount : Int32) (m_pairs : Int32) (m_worthSum : Int32) (m_upToDate : Int32) (s_today : Int32) (s_cutOff : Int32) (s_agingOff : Int32) (s_saleAge : Int32) (x1 : Int32) (x2 : Int32) (N : Nat) (res : Int32) (hm : m_S_dual p_count o_count m_pieceDuals m_orderDuals m_upToDate x1 x2 = some (.inr res)) : Met l y_S_dual w_S_dual ({ frames := 1, cells := 0, slots := 0, locals := 21 } : Room) (va_Pc [.ref sq, .int x1, .int x2] (fun U => va_P (dC, dI) classes [(sq, .inr (4, [.ref pq, .ref oq, .ref sq3, .ref sq4, .ref uq, .ref hq, .ref mq, .int s_today, .int s_cutOff, .int s_agingOff, .int s_saleAge])), (pq, .inr (0, [.ref pq1, .ref pq2, .ref pq3, .ref pq4, .int p_count])), (pq1, .inl (cI, 10, .inl p_thicks)), (pq2, .inl (cI, 10, .inl p_wides)), (pq3, .inl (cI, 10, .inl p_lengths)), (pq4, .inl (cI, 10, .inl p_grades)), (oq, .inr (0, [.ref oq1, .ref oq2, .ref oq3, .ref oq4, .int o_count])), (oq1, .inl (cI, 10, .inl o_thicks)), (oq2, .inl (cI, 10, .inl o_wides)), (oq3, .inl (cI, 10, .inl o_lengths)), (oq4, .inl (cI, 10, .inl o_grades)), (sq3, .inl (cI, 10, .inl s_cameOn)), (sq4, .inl (cI, 100, .inl s_told)), (uq, .inr (1, [.ref uq1, .int u_usedOrders])), (uq1, .inl (cI, 10, .inl u_ordersOfPiece)), (hq, .inr (2, [.ref hq1, .ref hq2, .int h_heldOrders])), (hq1, .inl (cI, 10, .inl h_orderOfPiece)), (hq2, .inl (cI, 10, .inl h_lastDay)), (mq, .inr (3, [.ref mq1, .ref mq2, .ref mq3, .ref mq4, .ref mq5, .int m_pieceCount, .int m_orderCount, .int m_pairs, .int m_worthSum, .int m_upToDate])), (mq1, .inl (cI, 100, .inl m_gains)), (mq2, .inl (cI, 11264, .inl m_best)), (mq3, .inl (cI, 10, .inl m_chosen)), (mq4, .inl (cI, 10, .inl m_pieceDuals)), (mq5, .inl (cI, 10, .inl m_orderDuals))] U.heap ∧ va_K (dC, dI) classes [(cI, .int)] U ∧ nw U)) (vp_Si (fun x => res = x)) 0 0 (fun _ => False) := by
  unfold m_S_dual at hm
  refine Met.ofW (cc := b_S_dual) (maxL := 4) (ret := (some .int)) (by decide) rfl ?_
  intro p e s m args below meth c s₁ B hml hv
  obtain ⟨rfl, hP, hK, hN⟩ := hv
  have hx := B.exec
  have hb := B.bytes
  have hr := B.returns
  have hts := atoms_spec (ws := w_S_dual) B.pre
  have hown : s.vm.findClass R_S = some m.cls := findClass_of_methodNamed B.named
  have hlocks := B.notSynchronized
  have hk0 := hts (.fieldLink R_S 16 "SurplusMatch" "orders" "LSurplusMatch$Boards;") (List.mem_cons_of_mem _ (w0 142 rfl))
  have hk1 : ∀ w ∈ w_S, w ∈ w_S_dual := fun w h => List.mem_cons_of_mem _ (i_S w h)
  have hk2 := hts (.fieldLink R_S 43 "SurplusMatch" "matching" "LSurplusMatch$Matching;") (List.mem_cons_of_mem _ (w0 147 rfl))
  have hk3 := hts (.fieldLink R_S 10 "SurplusMatch" "pieces" "LSurplusMatch$Boards;") (List.mem_cons_of_mem _ (w0 141 rfl))
  have hl := lv_entry ([.ref sq, .int x1, .int x2]) (n := 4) (Nat.le_of_ble_eq_true rfl)
  rw [lg_entry_eq]
  generalize (lg_sl ([.ref sq, .int x1, .int x2]) ++ List.replicate (4 - (lg_sl ([.ref sq, .int x1, .int x2])).length) Slot.unset).toArray = ls at hl ⊢
  have hl : lv_has ls 4 [(0, .ref sq), (1, .int x1), (2, .int x2)] := hl
  refine lv_iload_n hx hb d_S_dual_0 rfl (lv_at hl 1 rfl) ?_
  refine lv_if_eq (tgt := 19) hx hb d_S_dual_1 (by decide) (fun c9 => ?_) (fun c9 => ?_)
  · replace hm := if_t c9 hm
    refine lv_iload_n hx hb d_S_dual_19 rfl (lv_at hl 1 rfl) ?_
    refine lv_if_ne (tgt := 30) hx hb d_S_dual_20 (by decide) (fun c9 => ?_) (fun c9 => ?_)
    · replace hm := if_f c9 hm
      refine lv_aload_n hx hb d_S_dual_30 rfl (lv_at hl 0 rfl) ?_
      refine va_get (D := (dC, dI)) (ci := 4) (v := .ref oq) (C := R_S) (T := F_S) (N := 11) hx hb hts hk1 hown hK hP 0 rfl rfl 1 (by decide) hk0 (fun _ h9 => h9) rfl d_S_dual_31 ?_
      refine lv_astore_n (lv' := [(3, .ref oq), (0, .ref sq), (1, .int x1), (2, .int x2)]) hx hb d_S_dual_34 rfl hl (by decide) rfl (fun ls hl => ?_)
      refine lv_aload_n hx hb d_S_dual_35 rfl (lv_at hl 0 rfl) ?_
      refine lv_iload_n hx hb d_S_dual_36 rfl (lv_at hl 3 rfl) ?_
      obtain ⟨r1, hc, hm⟩ := bd hm
      try dsimp only at hm
      refine vp_callSi (W.runV (As := [.int x2]) (rest := []) ⟨hx, hb, hml, hown, hts⟩ (c_B_has l dC dI cI oq oq1 oq2 oq3 oq4 o_thicks o_wides o_lengths o_grades o_count x2 N r1 hc) (cwV 1 hts (gV (w0 409 rfl) (w0 410 rfl) (w0 411 rfl) (w0 29 rfl) (w0 412 rfl)) rfl rfl rfl q_B_has ⟨Nat.le_of_ble_eq_true rfl, Nat.le_of_ble_eq_true rfl⟩) (ro_preV [6, 7, 8, 9, 10] rfl hK hP hN 0 0 (R_B, F_B, 5) rfl rfl) rfl rfl hl.1 rfl (lv_room (Nat.le_of_ble_eq_true rfl)) d_S_dual_37 ⟨Nat.le_of_ble_eq_true rfl, Nat.le_of_ble_eq_true rfl⟩) (fun r9 hr9 => ?_)
      subst hr9
      refine lv_if_ne (tgt := 53) hx hb d_S_dual_40 (by decide) (fun c9 => ?_) (fun c9 => ?_)
      · replace hm := if_f c9 hm
        refine lv_aload_n hx hb d_S_dual_53 rfl (lv_at hl 1 rfl) ?_
        refine va_get (D := (dC, dI)) (ci := 4) (v := .ref mq) (C := R_S) (T := F_S) (N := 11) hx hb hts hk1 hown hK hP 0 rfl rfl 6 (by decide) hk2 (fun _ h9 => h9) rfl d_S_dual_54 ?_
        obtain ⟨r2, hc, hm⟩ := bd hm
        try dsimp only at hm
        refine vp_callSi (W.runV (As := []) (rest := []) ⟨hx, hb, hml, hown, hts⟩ (c_M_isUpToDate l dC dI cI mq mq1 mq2 mq3 mq4 mq5 m_gains m_best m_chosen m_pieceDuals m_orderDuals m_pieceCount m_orderCount m_pairs m_worthSum m_upToDate  N r2 hc) (cwV 0 hts (gV (w0 460 rfl) (w0 461 rfl) (w0 462 rfl) (w0 32 rfl) (w0 463 rfl)) rfl rfl rfl q_M_isUpToDate ⟨Nat.le_of_ble_eq_true rfl, Nat.le_of_ble_eq_true rfl⟩) (ro_preV [18, 19, 20, 21, 22, 23] rfl hK hP hN 3 0 (R_M, F_M, 10) rfl rfl) rfl rfl hl.1 rfl (lv_room (Nat.le_of_ble_eq_true rfl)) d_S_dual_57 ⟨Nat.le_of_ble_eq_true rfl, Nat.le_of_ble_eq_true rfl⟩) (fun r9 hr9 => ?_)
        subst hr9
        refine lv_if_ne (tgt := 73) hx hb d_S_dual_60 (by decide) (fun c9 => ?_) (fun c9 => ?_)
        · replace hm := if_f c9 hm
          refine lv_iload_n hx hb d_S_dual_73 rfl (lv_at hl 2 rfl) ?_
          refine lv_if_ne (tgt := 88) hx hb d_S_dual_74 (by decide) (fun c9 => ?_) (fun c9 => ?_)
          · replace hm := if_f c9 hm
            refine lv_aload_n hx hb d_S_dual_88 rfl (lv_at hl 1 rfl) ?_
            refine va_get (D := (dC, dI)) (ci := 4) (v := .ref mq) (C := R_S) (T := F_S) (N := 11) hx hb hts hk1 hown hK hP 0 rfl rfl 6 (by decide) hk2 (fun _ h9 => h9) rfl d_S_dual_89 ?_
            refine lv_iload_n hx hb d_S_dual_92 rfl (lv_at hl 3 rfl) ?_
            obtain ⟨r3, hc, hm⟩ := bd hm
            try dsimp only at hm
            refine vp_callSi (W.runV (As := [.int x2]) (rest := []) ⟨hx, hb, hml, hown, hts⟩ (c_M_dualOfOrder l dC dI cI mq mq1 mq2 mq3 mq4 mq5 m_gains m_best m_chosen m_pieceDuals m_orderDuals m_pieceCount m_orderCount m_pairs m_worthSum m_upToDate x2 N r3 hc) (cwV 1 hts (gV (w0 482 rfl) (w0 483 rfl) (w0 484 rfl) (w0 32 rfl) (w0 485 rfl)) rfl rfl rfl q_M_dualOfOrder ⟨Nat.le_of_ble_eq_true rfl, Nat.le_of_ble_eq_true rfl⟩) (ro_preV [18, 19, 20, 21, 22, 23] rfl hK hP hN 3 0 (R_M, F_M, 10) rfl rfl) rfl rfl hl.1 rfl (lv_room (Nat.le_of_ble_eq_true rfl)) d_S_dual_93 ⟨Nat.le_of_ble_eq_true rfl, Nat.le_of_ble_eq_true rfl⟩) (fun r9 hr9 => ?_)
            subst hr9
            cases hm
            exact W.iret hx hb hr (fun t ht hW => ⟨_, rfl, rfl, ht⟩) (fun _ h => nomatch h) d_S_dual_96
          · replace hm := if_t c9 hm
            refine lv_aload_n hx hb d_S_dual_77 rfl (lv_at hl 1 rfl) ?_
            refine va_get (D := (dC, dI)) (ci := 4) (v := .ref mq) (C := R_S) (T := F_S) (N := 11) hx hb hts hk1 hown hK hP 0 rfl rfl 6 (by decide) hk2 (fun _ h9 => h9) rfl d_S_dual_78 ?_
            refine lv_iload_n hx hb d_S_dual_81 rfl (lv_at hl 3 rfl) ?_
            obtain ⟨r5, hc, hm⟩ := bd hm
            try dsimp only at hm
            refine vp_callSi (W.runV (As := [.int x2]) (rest := []) ⟨hx, hb, hml, hown, hts⟩ (c_M_dualOfPiece l dC dI cI mq mq1 mq2 mq3 mq4 mq5 m_gains m_best m_chosen m_pieceDuals m_orderDuals m_pieceCount m_orderCount m_pairs m_worthSum m_upToDate x2 N r5 hc) (cwV 1 hts (gV (w0 478 rfl) (w0 479 rfl) (w0 480 rfl) (w0 32 rfl) (w0 481 rfl)) rfl rfl rfl q_M_dualOfPiece ⟨Nat.le_of_ble_eq_true rfl, Nat.le_of_ble_eq_true rfl⟩) (ro_preV [18, 19, 20, 21, 22, 23] rfl hK hP hN 3 0 (R_M, F_M, 10) rfl rfl) rfl rfl hl.1 rfl (lv_room (Nat.le_of_ble_eq_true rfl)) d_S_dual_82 ⟨Nat.le_of_ble_eq_true rfl, Nat.le_of_ble_eq_true rfl⟩) (fun r9 hr9 => ?_)
            subst hr9
            refine lv_goto (tgt := 96) hx hb d_S_dual_85 (by decide) ?_
            cases hm
            exact W.iret hx hb hr (fun t ht hW => ⟨_, rfl, rfl, ht⟩) (fun _ h => nomatch h) d_S_dual_96
        · replace hm := if_t c9 hm
          cases hm
      · replace hm := if_t c9 hm
        cases hm
    · replace hm := if_t c9 hm
      refine lv_aload_n hx hb d_S_dual_23 rfl (lv_at hl 0 rfl) ?_
      refine va_get (D := (dC, dI)) (ci := 4) (v := .ref pq) (C := R_S) (T := F_S) (N := 11) hx hb hts hk1 hown hK hP 0 rfl rfl 0 (by decide) hk3 (fun _ h9 => h9) rfl d_S_dual_24 ?_
      refine lv_goto (tgt := 34) hx hb d_S_dual_27 (by decide) ?_
      refine lv_astore_n (lv' := [(3, .ref pq), (0, .ref sq), (1, .int x1), (2, .int x2)]) hx hb d_S_dual_34 rfl hl (by decide) rfl (fun ls hl => ?_)
      refine lv_aload_n hx hb d_S_dual_35 rfl (lv_at hl 0 rfl) ?_
      refine lv_iload_n hx hb d_S_dual_36 rfl (lv_at hl 3 rfl) ?_
      obtain ⟨r9, hc, hm⟩ := bd hm
      try dsimp only at hm
      refine vp_callSi (W.runV (As := [.int x2]) (rest := []) ⟨hx, hb, hml, hown, hts⟩ (c_B_has l dC dI cI pq pq1 pq2 pq3 pq4 p_thicks p_wides p_lengths p_grades p_count x2 N r9 hc) (cwV 1 hts (gV (w0 409 rfl) (w0 410 rfl) (w0 411 rfl) (w0 29 rfl) (w0 412 rfl)) rfl rfl rfl q_B_has ⟨Nat.le_of_ble_eq_true rfl, Nat.le_of_ble_eq_true rfl⟩) (ro_preV [1, 2, 3, 4, 5] rfl hK hP hN 0 0 (R_B, F_B, 5) rfl rfl) rfl rfl hl.1 rfl (lv_room (Nat.le_of_ble_eq_true rfl)) d_S_dual_37 ⟨Nat.le_of_ble_eq_true rfl, Nat.le_of_ble_eq_true rfl⟩) (fun r9 hr9 => ?_)
      subst hr9
      refine lv_if_ne (tgt := 53) hx hb d_S_dual_40 (by decide) (fun c9 => ?_) (fun c9 => ?_)
      · replace hm := if_f c9 hm
        refine lv_aload_n hx hb d_S_dual_53 rfl (lv_at hl 1 rfl) ?_
        refine va_get (D := (dC, dI)) (ci := 4) (v := .ref mq) (C := R_S) (T := F_S) (N := 11) hx hb hts hk1 hown hK hP 0 rfl rfl 6 (by decide) hk2 (fun _ h9 => h9) rfl d_S_dual_54 ?_
        obtain ⟨r10, hc, hm⟩ := bd hm
        try dsimp only at hm
        refine vp_callSi (W.runV (As := []) (rest := []) ⟨hx, hb, hml, hown, hts⟩ (c_M_isUpToDate l dC dI cI mq mq1 mq2 mq3 mq4 mq5 m_gains m_best m_chosen m_pieceDuals m_orderDuals m_pieceCount m_orderCount m_pairs m_worthSum m_upToDate  N r10 hc) (cwV 0 hts (gV (w0 460 rfl) (w0 461 rfl) (w0 462 rfl) (w0 32 rfl) (w0 463 rfl)) rfl rfl rfl q_M_isUpToDate ⟨Nat.le_of_ble_eq_true rfl, Nat.le_of_ble_eq_true rfl⟩) (ro_preV [18, 19, 20, 21, 22, 23] rfl hK hP hN 3 0 (R_M, F_M, 10) rfl rfl) rfl rfl hl.1 rfl (lv_room (Nat.le_of_ble_eq_true rfl)) d_S_dual_57 ⟨Nat.le_of_ble_eq_true rfl, Nat.le_of_ble_eq_true rfl⟩) (fun r9 hr9 => ?_)
        subst hr9
        refine lv_if_ne (tgt := 73) hx hb d_S_dual_60 (by decide) (fun c9 => ?_) (fun c9 => ?_)
        · replace hm := if_f c9 hm
          refine lv_iload_n hx hb d_S_dual_73 rfl (lv_at hl 2 rfl) ?_
          refine lv_if_ne (tgt := 88) hx hb d_S_dual_74 (by decide) (fun c9 => ?_) (fun c9 => ?_)
          · replace hm := if_f c9 hm
            refine lv_aload_n hx hb d_S_dual_88 rfl (lv_at hl 1 rfl) ?_
            refine va_get (D := (dC, dI)) (ci := 4) (v := .ref mq) (C := R_S) (T := F_S) (N := 11) hx hb hts hk1 hown hK hP 0 rfl rfl 6 (by decide) hk2 (fun _ h9 => h9) rfl d_S_dual_89 ?_
            refine lv_iload_n hx hb d_S_dual_92 rfl (lv_at hl 3 rfl) ?_
            obtain ⟨r11, hc, hm⟩ := bd hm
            try dsimp only at hm
            refine vp_callSi (W.runV (As := [.int x2]) (rest := []) ⟨hx, hb, hml, hown, hts⟩ (c_M_dualOfOrder l dC dI cI mq mq1 mq2 mq3 mq4 mq5 m_gains m_best m_chosen m_pieceDuals m_orderDuals m_pieceCount m_orderCount m_pairs m_worthSum m_upToDate x2 N r11 hc) (cwV 1 hts (gV (w0 482 rfl) (w0 483 rfl) (w0 484 rfl) (w0 32 rfl) (w0 485 rfl)) rfl rfl rfl q_M_dualOfOrder ⟨Nat.le_of_ble_eq_true rfl, Nat.le_of_ble_eq_true rfl⟩) (ro_preV [18, 19, 20, 21, 22, 23] rfl hK hP hN 3 0 (R_M, F_M, 10) rfl rfl) rfl rfl hl.1 rfl (lv_room (Nat.le_of_ble_eq_true rfl)) d_S_dual_93 ⟨Nat.le_of_ble_eq_true rfl, Nat.le_of_ble_eq_true rfl⟩) (fun r9 hr9 => ?_)
            subst hr9
            cases hm
            exact W.iret hx hb hr (fun t ht hW => ⟨_, rfl, rfl, ht⟩) (fun _ h => nomatch h) d_S_dual_96
          · replace hm := if_t c9 hm
            refine lv_aload_n hx hb d_S_dual_77 rfl (lv_at hl 1 rfl) ?_
            refine va_get (D := (dC, dI)) (ci := 4) (v := .ref mq) (C := R_S) (T := F_S) (N := 11) hx hb hts hk1 hown hK hP 0 rfl rfl 6 (by decide) hk2 (fun _ h9 => h9) rfl d_S_dual_78 ?_
            refine lv_iload_n hx hb d_S_dual_81 rfl (lv_at hl 3 rfl) ?_
            obtain ⟨r13, hc, hm⟩ := bd hm
            try dsimp only at hm
            refine vp_callSi (W.runV (As := [.int x2]) (rest := []) ⟨hx, hb, hml, hown, hts⟩ (c_M_dualOfPiece l dC dI cI mq mq1 mq2 mq3 mq4 mq5 m_gains m_best m_chosen m_pieceDuals m_orderDuals m_pieceCount m_orderCount m_pairs m_worthSum m_upToDate x2 N r13 hc) (cwV 1 hts (gV (w0 478 rfl) (w0 479 rfl) (w0 480 rfl) (w0 32 rfl) (w0 481 rfl)) rfl rfl rfl q_M_dualOfPiece ⟨Nat.le_of_ble_eq_true rfl, Nat.le_of_ble_eq_true rfl⟩) (ro_preV [18, 19, 20, 21, 22, 23] rfl hK hP hN 3 0 (R_M, F_M, 10) rfl rfl) rfl rfl hl.1 rfl (lv_room (Nat.le_of_ble_eq_true rfl)) d_S_dual_82 ⟨Nat.le_of_ble_eq_true rfl, Nat.le_of_ble_eq_true rfl⟩) (fun r9 hr9 => ?_)
            subst hr9
            refine lv_goto (tgt := 96) hx hb d_S_dual_85 (by decide) ?_
            cases hm
            exact W.iret hx hb hr (fun t ht hW => ⟨_, rfl, rfl, ht⟩) (fun _ h => nomatch h) d_S_dual_96
        · replace hm := if_t c9 hm
          cases hm
      · replace hm := if_t c9 hm
        cases hm
  · replace hm := if_f c9 hm
    refine lv_iload_n hx hb d_S_dual_4 rfl (lv_at hl 1 rfl) ?_
    refine lv_iconst (v := 1) hx hb d_S_dual_5 (by decide) ?_
    refine lv_icmp_eq (tgt := 19) hx hb d_S_dual_6 (by decide) (fun c9 => ?_) (fun c9 => ?_)
    · replace hm := if_t c9 hm
      refine lv_iload_n hx hb d_S_dual_19 rfl (lv_at hl 1 rfl) ?_
      refine lv_if_ne (tgt := 30) hx hb d_S_dual_20 (by decide) (fun c9 => ?_) (fun c9 => ?_)
      · replace hm := if_f c9 hm
        refine lv_aload_n hx hb d_S_dual_30 rfl (lv_at hl 0 rfl) ?_
        refine va_get (D := (dC, dI)) (ci := 4) (v := .ref oq) (C := R_S) (T := F_S) (N := 11) hx hb hts hk1 hown hK hP 0 rfl rfl 1 (by decide) hk0 (fun _ h9 => h9) rfl d_S_dual_31 ?_
        refine lv_astore_n (lv' := [(3, .ref oq), (0, .ref sq), (1, .int x1), (2, .int x2)]) hx hb d_S_dual_34 rfl hl (by decide) rfl (fun ls hl => ?_)
        refine lv_aload_n hx hb d_S_dual_35 rfl (lv_at hl 0 rfl) ?_
        refine lv_iload_n hx hb d_S_dual_36 rfl (lv_at hl 3 rfl) ?_
        obtain ⟨r17, hc, hm⟩ := bd hm
        try dsimp only at hm
        refine vp_callSi (W.runV (As := [.int x2]) (rest := []) ⟨hx, hb, hml, hown, hts⟩ (c_B_has l dC dI cI oq oq1 oq2 oq3 oq4 o_thicks o_wides o_lengths o_grades o_count x2 N r17 hc) (cwV 1 hts (gV (w0 409 rfl) (w0 410 rfl) (w0 411 rfl) (w0 29 rfl) (w0 412 rfl)) rfl rfl rfl q_B_has ⟨Nat.le_of_ble_eq_true rfl, Nat.le_of_ble_eq_true rfl⟩) (ro_preV [6, 7, 8, 9, 10] rfl hK hP hN 0 0 (R_B, F_B, 5) rfl rfl) rfl rfl hl.1 rfl (lv_room (Nat.le_of_ble_eq_true rfl)) d_S_dual_37 ⟨Nat.le_of_ble_eq_true rfl, Nat.le_of_ble_eq_true rfl⟩) (fun r9 hr9 => ?_)
        subst hr9
        refine lv_if_ne (tgt := 53) hx hb d_S_dual_40 (by decide) (fun c9 => ?_) (fun c9 => ?_)
        · replace hm := if_f c9 hm
          refine lv_aload_n hx hb d_S_dual_53 rfl (lv_at hl 1 rfl) ?_
          refine va_get (D := (dC, dI)) (ci := 4) (v := .ref mq) (C := R_S) (T := F_S) (N := 11) hx hb hts hk1 hown hK hP 0 rfl rfl 6 (by decide) hk2 (fun _ h9 => h9) rfl d_S_dual_54 ?_
          obtain ⟨r18, hc, hm⟩ := bd hm
          try dsimp only at hm
          refine vp_callSi (W.runV (As := []) (rest := []) ⟨hx, hb, hml, hown, hts⟩ (c_M_isUpToDate l dC dI cI mq mq1 mq2 mq3 mq4 mq5 m_gains m_best m_chosen m_pieceDuals m_orderDuals m_pieceCount m_orderCount m_pairs m_worthSum m_upToDate  N r18 hc) (cwV 0 hts (gV (w0 460 rfl) (w0 461 rfl) (w0 462 rfl) (w0 32 rfl) (w0 463 rfl)) rfl rfl rfl q_M_isUpToDate ⟨Nat.le_of_ble_eq_true rfl, Nat.le_of_ble_eq_true rfl⟩) (ro_preV [18, 19, 20, 21, 22, 23] rfl hK hP hN 3 0 (R_M, F_M, 10) rfl rfl) rfl rfl hl.1 rfl (lv_room (Nat.le_of_ble_eq_true rfl)) d_S_dual_57 ⟨Nat.le_of_ble_eq_true rfl, Nat.le_of_ble_eq_true rfl⟩) (fun r9 hr9 => ?_)
          subst hr9
          refine lv_if_ne (tgt := 73) hx hb d_S_dual_60 (by decide) (fun c9 => ?_) (fun c9 => ?_)
          · replace hm := if_f c9 hm
            refine lv_iload_n hx hb d_S_dual_73 rfl (lv_at hl 2 rfl) ?_
            refine lv_if_ne (tgt := 88) hx hb d_S_dual_74 (by decide) (fun c9 => ?_) (fun c9 => ?_)
            · replace hm := if_f c9 hm
              refine lv_aload_n hx hb d_S_dual_88 rfl (lv_at hl 1 rfl) ?_
              refine va_get (D := (dC, dI)) (ci := 4) (v := .ref mq) (C := R_S) (T := F_S) (N := 11) hx hb hts hk1 hown hK hP 0 rfl rfl 6 (by decide) hk2 (fun _ h9 => h9) rfl d_S_dual_89 ?_
              refine lv_iload_n hx hb d_S_dual_92 rfl (lv_at hl 3 rfl) ?_
              obtain ⟨r19, hc, hm⟩ := bd hm
              try dsimp only at hm
              refine vp_callSi (W.runV (As := [.int x2]) (rest := []) ⟨hx, hb, hml, hown, hts⟩ (c_M_dualOfOrder l dC dI cI mq mq1 mq2 mq3 mq4 mq5 m_gains m_best m_chosen m_pieceDuals m_orderDuals m_pieceCount m_orderCount m_pairs m_worthSum m_upToDate x2 N r19 hc) (cwV 1 hts (gV (w0 482 rfl) (w0 483 rfl) (w0 484 rfl) (w0 32 rfl) (w0 485 rfl)) rfl rfl rfl q_M_dualOfOrder ⟨Nat.le_of_ble_eq_true rfl, Nat.le_of_ble_eq_true rfl⟩) (ro_preV [18, 19, 20, 21, 22, 23] rfl hK hP hN 3 0 (R_M, F_M, 10) rfl rfl) rfl rfl hl.1 rfl (lv_room (Nat.le_of_ble_eq_true rfl)) d_S_dual_93 ⟨Nat.le_of_ble_eq_true rfl, Nat.le_of_ble_eq_true rfl⟩) (fun r9 hr9 => ?_)
              subst hr9
              cases hm
              exact W.iret hx hb hr (fun t ht hW => ⟨_, rfl, rfl, ht⟩) (fun _ h => nomatch h) d_S_dual_96
            · replace hm := if_t c9 hm
              refine lv_aload_n hx hb d_S_dual_77 rfl (lv_at hl 1 rfl) ?_
              refine va_get (D := (dC, dI)) (ci := 4) (v := .ref mq) (C := R_S) (T := F_S) (N := 11) hx hb hts hk1 hown hK hP 0 rfl rfl 6 (by decide) hk2 (fun _ h9 => h9) rfl d_S_dual_78 ?_
              refine lv_iload_n hx hb d_S_dual_81 rfl (lv_at hl 3 rfl) ?_
              obtain ⟨r21, hc, hm⟩ := bd hm
              try dsimp only at hm
              refine vp_callSi (W.runV (As := [.int x2]) (rest := []) ⟨hx, hb, hml, hown, hts⟩ (c_M_dualOfPiece l dC dI cI mq mq1 mq2 mq3 mq4 mq5 m_gains m_best m_chosen m_pieceDuals m_orderDuals m_pieceCount m_orderCount m_pairs m_worthSum m_upToDate x2 N r21 hc) (cwV 1 hts (gV (w0 478 rfl) (w0 479 rfl) (w0 480 rfl) (w0 32 rfl) (w0 481 rfl)) rfl rfl rfl q_M_dualOfPiece ⟨Nat.le_of_ble_eq_true rfl, Nat.le_of_ble_eq_true rfl⟩) (ro_preV [18, 19, 20, 21, 22, 23] rfl hK hP hN 3 0 (R_M, F_M, 10) rfl rfl) rfl rfl hl.1 rfl (lv_room (Nat.le_of_ble_eq_true rfl)) d_S_dual_82 ⟨Nat.le_of_ble_eq_true rfl, Nat.le_of_ble_eq_true rfl⟩) (fun r9 hr9 => ?_)
              subst hr9
              refine lv_goto (tgt := 96) hx hb d_S_dual_85 (by decide) ?_
              cases hm
              exact W.iret hx hb hr (fun t ht hW => ⟨_, rfl, rfl, ht⟩) (fun _ h => nomatch h) d_S_dual_96
          · replace hm := if_t c9 hm
            cases hm
        · replace hm := if_t c9 hm
          cases hm
      · replace hm := if_t c9 hm
        refine lv_aload_n hx hb d_S_dual_23 rfl (lv_at hl 0 rfl) ?_
        refine va_get (D := (dC, dI)) (ci := 4) (v := .ref pq) (C := R_S) (T := F_S) (N := 11) hx hb hts hk1 hown hK hP 0 rfl rfl 0 (by decide) hk3 (fun _ h9 => h9) rfl d_S_dual_24 ?_
        refine lv_goto (tgt := 34) hx hb d_S_dual_27 (by decide) ?_
        refine lv_astore_n (lv' := [(3, .ref pq), (0, .ref sq), (1, .int x1), (2, .int x2)]) hx hb d_S_dual_34 rfl hl (by decide) rfl (fun ls hl => ?_)
        refine lv_aload_n hx hb d_S_dual_35 rfl (lv_at hl 0 rfl) ?_
        refine lv_iload_n hx hb d_S_dual_36 rfl (lv_at hl 3 rfl) ?_
        obtain ⟨r25, hc, hm⟩ := bd hm
        try dsimp only at hm
        refine vp_callSi (W.runV (As := [.int x2]) (rest := []) ⟨hx, hb, hml, hown, hts⟩ (c_B_has l dC dI cI pq pq1 pq2 pq3 pq4 p_thicks p_wides p_lengths p_grades p_count x2 N r25 hc) (cwV 1 hts (gV (w0 409 rfl) (w0 410 rfl) (w0 411 rfl) (w0 29 rfl) (w0 412 rfl)) rfl rfl rfl q_B_has ⟨Nat.le_of_ble_eq_true rfl, Nat.le_of_ble_eq_true rfl⟩) (ro_preV [1, 2, 3, 4, 5] rfl hK hP hN 0 0 (R_B, F_B, 5) rfl rfl) rfl rfl hl.1 rfl (lv_room (Nat.le_of_ble_eq_true rfl)) d_S_dual_37 ⟨Nat.le_of_ble_eq_true rfl, Nat.le_of_ble_eq_true rfl⟩) (fun r9 hr9 => ?_)
        subst hr9
        refine lv_if_ne (tgt := 53) hx hb d_S_dual_40 (by decide) (fun c9 => ?_) (fun c9 => ?_)
        · replace hm := if_f c9 hm
          refine lv_aload_n hx hb d_S_dual_53 rfl (lv_at hl 1 rfl) ?_
          refine va_get (D := (dC, dI)) (ci := 4) (v := .ref mq) (C := R_S) (T := F_S) (N := 11) hx hb hts hk1 hown hK hP 0 rfl rfl 6 (by decide) hk2 (fun _ h9 => h9) rfl d_S_dual_54 ?_
          obtain ⟨r26, hc, hm⟩ := bd hm
          try dsimp only at hm
          refine vp_callSi (W.runV (As := []) (rest := []) ⟨hx, hb, hml, hown, hts⟩ (c_M_isUpToDate l dC dI cI mq mq1 mq2 mq3 mq4 mq5 m_gains m_best m_chosen m_pieceDuals m_orderDuals m_pieceCount m_orderCount m_pairs m_worthSum m_upToDate  N r26 hc) (cwV 0 hts (gV (w0 460 rfl) (w0 461 rfl) (w0 462 rfl) (w0 32 rfl) (w0 463 rfl)) rfl rfl rfl q_M_isUpToDate ⟨Nat.le_of_ble_eq_true rfl, Nat.le_of_ble_eq_true rfl⟩) (ro_preV [18, 19, 20, 21, 22, 23] rfl hK hP hN 3 0 (R_M, F_M, 10) rfl rfl) rfl rfl hl.1 rfl (lv_room (Nat.le_of_ble_eq_true rfl)) d_S_dual_57 ⟨Nat.le_of_ble_eq_true rfl, Nat.le_of_ble_eq_true rfl⟩) (fun r9 hr9 => ?_)
          subst hr9
          refine lv_if_ne (tgt := 73) hx hb d_S_dual_60 (by decide) (fun c9 => ?_) (fun c9 => ?_)
          · replace hm := if_f c9 hm
            refine lv_iload_n hx hb d_S_dual_73 rfl (lv_at hl 2 rfl) ?_
            refine lv_if_ne (tgt := 88) hx hb d_S_dual_74 (by decide) (fun c9 => ?_) (fun c9 => ?_)
            · replace hm := if_f c9 hm
              refine lv_aload_n hx hb d_S_dual_88 rfl (lv_at hl 1 rfl) ?_
              refine va_get (D := (dC, dI)) (ci := 4) (v := .ref mq) (C := R_S) (T := F_S) (N := 11) hx hb hts hk1 hown hK hP 0 rfl rfl 6 (by decide) hk2 (fun _ h9 => h9) rfl d_S_dual_89 ?_
              refine lv_iload_n hx hb d_S_dual_92 rfl (lv_at hl 3 rfl) ?_
              obtain ⟨r27, hc, hm⟩ := bd hm
              try dsimp only at hm
              refine vp_callSi (W.runV (As := [.int x2]) (rest := []) ⟨hx, hb, hml, hown, hts⟩ (c_M_dualOfOrder l dC dI cI mq mq1 mq2 mq3 mq4 mq5 m_gains m_best m_chosen m_pieceDuals m_orderDuals m_pieceCount m_orderCount m_pairs m_worthSum m_upToDate x2 N r27 hc) (cwV 1 hts (gV (w0 482 rfl) (w0 483 rfl) (w0 484 rfl) (w0 32 rfl) (w0 485 rfl)) rfl rfl rfl q_M_dualOfOrder ⟨Nat.le_of_ble_eq_true rfl, Nat.le_of_ble_eq_true rfl⟩) (ro_preV [18, 19, 20, 21, 22, 23] rfl hK hP hN 3 0 (R_M, F_M, 10) rfl rfl) rfl rfl hl.1 rfl (lv_room (Nat.le_of_ble_eq_true rfl)) d_S_dual_93 ⟨Nat.le_of_ble_eq_true rfl, Nat.le_of_ble_eq_true rfl⟩) (fun r9 hr9 => ?_)
              subst hr9
              cases hm
              exact W.iret hx hb hr (fun t ht hW => ⟨_, rfl, rfl, ht⟩) (fun _ h => nomatch h) d_S_dual_96
            · replace hm := if_t c9 hm
              refine lv_aload_n hx hb d_S_dual_77 rfl (lv_at hl 1 rfl) ?_
              refine va_get (D := (dC, dI)) (ci := 4) (v := .ref mq) (C := R_S) (T := F_S) (N := 11) hx hb hts hk1 hown hK hP 0 rfl rfl 6 (by decide) hk2 (fun _ h9 => h9) rfl d_S_dual_78 ?_
              refine lv_iload_n hx hb d_S_dual_81 rfl (lv_at hl 3 rfl) ?_
              obtain ⟨r29, hc, hm⟩ := bd hm
              try dsimp only at hm
              refine vp_callSi (W.runV (As := [.int x2]) (rest := []) ⟨hx, hb, hml, hown, hts⟩ (c_M_dualOfPiece l dC dI cI mq mq1 mq2 mq3 mq4 mq5 m_gains m_best m_chosen m_pieceDuals m_orderDuals m_pieceCount m_orderCount m_pairs m_worthSum m_upToDate x2 N r29 hc) (cwV 1 hts (gV (w0 478 rfl) (w0 479 rfl) (w0 480 rfl) (w0 32 rfl) (w0 481 rfl)) rfl rfl rfl q_M_dualOfPiece ⟨Nat.le_of_ble_eq_true rfl, Nat.le_of_ble_eq_true rfl⟩) (ro_preV [18, 19, 20, 21, 22, 23] rfl hK hP hN 3 0 (R_M, F_M, 10) rfl rfl) rfl rfl hl.1 rfl (lv_room (Nat.le_of_ble_eq_true rfl)) d_S_dual_82 ⟨Nat.le_of_ble_eq_true rfl, Nat.le_of_ble_eq_true rfl⟩) (fun r9 hr9 => ?_)
              subst hr9
              refine lv_goto (tgt := 96) hx hb d_S_dual_85 (by decide) ?_
              cases hm
              exact W.iret hx hb hr (fun t ht hW => ⟨_, rfl, rfl, ht⟩) (fun _ h => nomatch h) d_S_dual_96
          · replace hm := if_t c9 hm
            cases hm
        · replace hm := if_t c9 hm
          cases hm
    · replace hm := if_f c9 hm
      cases hm
set_option maxHeartbeats 4000000 in
set_option maxRecDepth 100000 in
theorem x_S_dual (l : Launch) (dC : Nat → ClassId) (dI : Nat → Nat → Nat) (cI : ClassId) (sq pq pq1 pq2 pq3 pq4 oq oq1 oq2 oq3 oq4 sq3 sq4 uq uq1 hq hq1 hq2 mq mq1 mq2 mq3 mq4 mq5 : Nat) (p_thicks : Nat → Int32) (p_wides : Nat → Int32) (p_lengths : Nat → Int32) (p_grades : Nat → Int32) (p_count : Int32) (o_thicks : Nat → Int32) (o_wides : Nat → Int32) (o_lengths : Nat → Int32) (o_grades : Nat → Int32) (o_count : Int32) (s_cameOn : Nat → Int32) (s_told : Nat → Int32) (u_ordersOfPiece : Nat → Int32) (u_usedOrders : Int32) (h_orderOfPiece : Nat → Int32) (h_lastDay : Nat → Int32) (h_heldOrders : Int32) (m_gains : Nat → Int32) (m_best : Nat → Int32) (m_chosen : Nat → Int32) (m_pieceDuals : Nat → Int32) (m_orderDuals : Nat → Int32) (m_pieceCount : Int32) (m_orderCount : Int32) (m_pairs : Int32) (m_worthSum : Int32) (m_upToDate : Int32) (s_today : Int32) (s_cutOff : Int32) (s_agingOff : Int32) (s_saleAge : Int32) (x1 : Int32) (x2 : Int32) (N : Nat) (k : Nat) (hst : l.stackTraces = false) (hm : m_S_dual p_count o_count m_pieceDuals m_orderDuals m_upToDate x1 x2 = some (.inl k)) : xt_Met l y_S_dual w_S_dual ({ frames := 6, cells := 1, slots := 6, locals := 96 } : Room) (va_Pc [.ref sq, .int x1, .int x2] (fun U => va_P (dC, dI) classes [(sq, .inr (4, [.ref pq, .ref oq, .ref sq3, .ref sq4, .ref uq, .ref hq, .ref mq, .int s_today, .int s_cutOff, .int s_agingOff, .int s_saleAge])), (pq, .inr (0, [.ref pq1, .ref pq2, .ref pq3, .ref pq4, .int p_count])), (pq1, .inl (cI, 10, .inl p_thicks)), (pq2, .inl (cI, 10, .inl p_wides)), (pq3, .inl (cI, 10, .inl p_lengths)), (pq4, .inl (cI, 10, .inl p_grades)), (oq, .inr (0, [.ref oq1, .ref oq2, .ref oq3, .ref oq4, .int o_count])), (oq1, .inl (cI, 10, .inl o_thicks)), (oq2, .inl (cI, 10, .inl o_wides)), (oq3, .inl (cI, 10, .inl o_lengths)), (oq4, .inl (cI, 10, .inl o_grades)), (sq3, .inl (cI, 10, .inl s_cameOn)), (sq4, .inl (cI, 100, .inl s_told)), (uq, .inr (1, [.ref uq1, .int u_usedOrders])), (uq1, .inl (cI, 10, .inl u_ordersOfPiece)), (hq, .inr (2, [.ref hq1, .ref hq2, .int h_heldOrders])), (hq1, .inl (cI, 10, .inl h_orderOfPiece)), (hq2, .inl (cI, 10, .inl h_lastDay)), (mq, .inr (3, [.ref mq1, .ref mq2, .ref mq3, .ref mq4, .ref mq5, .int m_pieceCount, .int m_orderCount, .int m_pairs, .int m_worthSum, .int m_upToDate])), (mq1, .inl (cI, 100, .inl m_gains)), (mq2, .inl (cI, 11264, .inl m_best)), (mq3, .inl (cI, 10, .inl m_chosen)), (mq4, .inl (cI, 10, .inl m_pieceDuals)), (mq5, .inl (cI, 10, .inl m_orderDuals))] U.heap ∧ va_K (dC, dI) classes [(cI, .int)] U ∧ nw U ∧ xE xTx U U.heap)) (xn k) := by
  unfold m_S_dual at hm
  refine xt_ofW (cc := b_S_dual) (maxL := 4) (ret := (some .int)) (by decide) rfl ?_
  intro p e s m args below meth c s₁ B hml hout hv
  obtain ⟨rfl, hP, hK, hN, hE⟩ := hv
  have hx := B.exec
  have hb := B.bytes
  have hr := B.returns
  have hts := atoms_spec (ws := w_S_dual) B.pre
  have hown : s.vm.findClass R_S = some m.cls := findClass_of_methodNamed B.named
  have hlocks := B.notSynchronized
  have hk0 := hts (.fieldLink R_S 16 "SurplusMatch" "orders" "LSurplusMatch$Boards;") (List.mem_cons_of_mem _ (w0 142 rfl))
  have hk1 : ∀ w ∈ w_S, w ∈ w_S_dual := fun w h => List.mem_cons_of_mem _ (i_S w h)
  have hk2 := hts (.fieldLink R_S 43 "SurplusMatch" "matching" "LSurplusMatch$Matching;") (List.mem_cons_of_mem _ (w0 147 rfl))
  have hk3 := hts (.classLink R_S 145 "java/lang/IllegalStateException") (List.mem_cons_of_mem _ (w0 464 rfl))
  have hk4 := hts (.initialized "java/lang/IllegalStateException") (List.mem_cons_of_mem _ (w0 42 rfl))
  have hk5 := hts (.classLink R_S 130 "java/lang/IndexOutOfBoundsException") (List.mem_cons_of_mem _ (w0 413 rfl))
  have hk6 := hts (.initialized "java/lang/IndexOutOfBoundsException") (List.mem_cons_of_mem _ (w0 39 rfl))
  have hk7 := hts (.fieldLink R_S 10 "SurplusMatch" "pieces" "LSurplusMatch$Boards;") (List.mem_cons_of_mem _ (w0 141 rfl))
  have hl := lv_entry ([.ref sq, .int x1, .int x2]) (n := 4) (Nat.le_of_ble_eq_true rfl)
  rw [lg_entry_eq]
  generalize (lg_sl ([.ref sq, .int x1, .int x2]) ++ List.replicate (4 - (lg_sl ([.ref sq, .int x1, .int x2])).length) Slot.unset).toArray = ls at hl ⊢
  have hl : lv_has ls 4 [(0, .ref sq), (1, .int x1), (2, .int x2)] := hl
  refine lv_iload_n hx hb d_S_dual_0 rfl (lv_at hl 1 rfl) ?_
  refine lv_if_eq (tgt := 19) hx hb d_S_dual_1 (by decide) (fun c9 => ?_) (fun c9 => ?_)
  · replace hm := if_t c9 hm
    refine lv_iload_n hx hb d_S_dual_19 rfl (lv_at hl 1 rfl) ?_
    refine lv_if_ne (tgt := 30) hx hb d_S_dual_20 (by decide) (fun c9 => ?_) (fun c9 => ?_)
    · replace hm := if_f c9 hm
      refine lv_aload_n hx hb d_S_dual_30 rfl (lv_at hl 0 rfl) ?_
      refine va_get (D := (dC, dI)) (ci := 4) (v := .ref oq) (C := R_S) (T := F_S) (N := 11) hx hb hts hk1 hown hK hP 0 rfl rfl 1 (by decide) hk0 (fun _ h9 => h9) rfl d_S_dual_31 ?_
      refine lv_astore_n (lv' := [(3, .ref oq), (0, .ref sq), (1, .int x1), (2, .int x2)]) hx hb d_S_dual_34 rfl hl (by decide) rfl (fun ls hl => ?_)
      refine lv_aload_n hx hb d_S_dual_35 rfl (lv_at hl 0 rfl) ?_
      refine lv_iload_n hx hb d_S_dual_36 rfl (lv_at hl 3 rfl) ?_
      obtain ⟨r1, hc, hm⟩ := bd hm
      try dsimp only at hm
      refine vp_callSi (W.runV (As := [.int x2]) (rest := []) ⟨hx, hb, hml, hown, hts⟩ (c_B_has l dC dI cI oq oq1 oq2 oq3 oq4 o_thicks o_wides o_lengths o_grades o_count x2 N r1 hc) (cwV 1 hts (gV (w0 409 rfl) (w0 410 rfl) (w0 411 rfl) (w0 29 rfl) (w0 412 rfl)) rfl rfl rfl q_B_has ⟨Nat.le_of_ble_eq_true rfl, Nat.le_of_ble_eq_true rfl⟩) (ro_preV [6, 7, 8, 9, 10] rfl hK hP hN 0 0 (R_B, F_B, 5) rfl rfl) rfl rfl hl.1 rfl (lv_room (Nat.le_of_ble_eq_true rfl)) d_S_dual_37 ⟨Nat.le_of_ble_eq_true rfl, Nat.le_of_ble_eq_true rfl⟩) (fun r9 hr9 => ?_)
      subst hr9
      refine lv_if_ne (tgt := 53) hx hb d_S_dual_40 (by decide) (fun c9 => ?_) (fun c9 => ?_)
      · replace hm := if_f c9 hm
        refine lv_aload_n hx hb d_S_dual_53 rfl (lv_at hl 1 rfl) ?_
        refine va_get (D := (dC, dI)) (ci := 4) (v := .ref mq) (C := R_S) (T := F_S) (N := 11) hx hb hts hk1 hown hK hP 0 rfl rfl 6 (by decide) hk2 (fun _ h9 => h9) rfl d_S_dual_54 ?_
        obtain ⟨r2, hc, hm⟩ := bd hm
        try dsimp only at hm
        refine vp_callSi (W.runV (As := []) (rest := []) ⟨hx, hb, hml, hown, hts⟩ (c_M_isUpToDate l dC dI cI mq mq1 mq2 mq3 mq4 mq5 m_gains m_best m_chosen m_pieceDuals m_orderDuals m_pieceCount m_orderCount m_pairs m_worthSum m_upToDate  N r2 hc) (cwV 0 hts (gV (w0 460 rfl) (w0 461 rfl) (w0 462 rfl) (w0 32 rfl) (w0 463 rfl)) rfl rfl rfl q_M_isUpToDate ⟨Nat.le_of_ble_eq_true rfl, Nat.le_of_ble_eq_true rfl⟩) (ro_preV [18, 19, 20, 21, 22, 23] rfl hK hP hN 3 0 (R_M, F_M, 10) rfl rfl) rfl rfl hl.1 rfl (lv_room (Nat.le_of_ble_eq_true rfl)) d_S_dual_57 ⟨Nat.le_of_ble_eq_true rfl, Nat.le_of_ble_eq_true rfl⟩) (fun r9 hr9 => ?_)
        subst hr9
        refine lv_if_ne (tgt := 73) hx hb d_S_dual_60 (by decide) (fun c9 => ?_) (fun c9 => ?_)
        · replace hm := if_f c9 hm
          refine lv_iload_n hx hb d_S_dual_73 rfl (lv_at hl 2 rfl) ?_
          refine lv_if_ne (tgt := 88) hx hb d_S_dual_74 (by decide) (fun c9 => ?_) (fun c9 => ?_)
          · replace hm := if_f c9 hm
            refine lv_aload_n hx hb d_S_dual_88 rfl (lv_at hl 1 rfl) ?_
            refine va_get (D := (dC, dI)) (ci := 4) (v := .ref mq) (C := R_S) (T := F_S) (N := 11) hx hb hts hk1 hown hK hP 0 rfl rfl 6 (by decide) hk2 (fun _ h9 => h9) rfl d_S_dual_89 ?_
            refine lv_iload_n hx hb d_S_dual_92 rfl (lv_at hl 3 rfl) ?_
            obtain ⟨r3, hc, hm⟩ := bd hm
            try dsimp only at hm
            refine vp_callSi (W.runV (As := [.int x2]) (rest := []) ⟨hx, hb, hml, hown, hts⟩ (c_M_dualOfOrder l dC dI cI mq mq1 mq2 mq3 mq4 mq5 m_gains m_best m_chosen m_pieceDuals m_orderDuals m_pieceCount m_orderCount m_pairs m_worthSum m_upToDate x2 N r3 hc) (cwV 1 hts (gV (w0 482 rfl) (w0 483 rfl) (w0 484 rfl) (w0 32 rfl) (w0 485 rfl)) rfl rfl rfl q_M_dualOfOrder ⟨Nat.le_of_ble_eq_true rfl, Nat.le_of_ble_eq_true rfl⟩) (ro_preV [18, 19, 20, 21, 22, 23] rfl hK hP hN 3 0 (R_M, F_M, 10) rfl rfl) rfl rfl hl.1 rfl (lv_room (Nat.le_of_ble_eq_true rfl)) d_S_dual_93 ⟨Nat.le_of_ble_eq_true rfl, Nat.le_of_ble_eq_true rfl⟩) (fun r9 hr9 => ?_)
            subst hr9
            cases hm
          · replace hm := if_t c9 hm
            refine lv_aload_n hx hb d_S_dual_77 rfl (lv_at hl 1 rfl) ?_
            refine va_get (D := (dC, dI)) (ci := 4) (v := .ref mq) (C := R_S) (T := F_S) (N := 11) hx hb hts hk1 hown hK hP 0 rfl rfl 6 (by decide) hk2 (fun _ h9 => h9) rfl d_S_dual_78 ?_
            refine lv_iload_n hx hb d_S_dual_81 rfl (lv_at hl 3 rfl) ?_
            obtain ⟨r5, hc, hm⟩ := bd hm
            try dsimp only at hm
            refine vp_callSi (W.runV (As := [.int x2]) (rest := []) ⟨hx, hb, hml, hown, hts⟩ (c_M_dualOfPiece l dC dI cI mq mq1 mq2 mq3 mq4 mq5 m_gains m_best m_chosen m_pieceDuals m_orderDuals m_pieceCount m_orderCount m_pairs m_worthSum m_upToDate x2 N r5 hc) (cwV 1 hts (gV (w0 478 rfl) (w0 479 rfl) (w0 480 rfl) (w0 32 rfl) (w0 481 rfl)) rfl rfl rfl q_M_dualOfPiece ⟨Nat.le_of_ble_eq_true rfl, Nat.le_of_ble_eq_true rfl⟩) (ro_preV [18, 19, 20, 21, 22, 23] rfl hK hP hN 3 0 (R_M, F_M, 10) rfl rfl) rfl rfl hl.1 rfl (lv_room (Nat.le_of_ble_eq_true rfl)) d_S_dual_82 ⟨Nat.le_of_ble_eq_true rfl, Nat.le_of_ble_eq_true rfl⟩) (fun r9 hr9 => ?_)
            subst hr9
            refine lv_goto (tgt := 96) hx hb d_S_dual_85 (by decide) ?_
            cases hm
        · replace hm := if_t c9 hm
          cases hm
          obtain ⟨sa, hsa⟩ := hE.2.2.2.2 (147, "no run since the last piece or order came") (List.mem_of_getElem? (i := 6) rfl)
          exact xt_throw (cls := "java/lang/IllegalStateException") (names := xnm) hx hb hst hown (by decide +kernel) xnm_fit hk3 hk4 hsa (hat_1 hts hE) (hl.1.trans hml.symm) d_S_dual_63 d_S_dual_66 d_S_dual_67 d_S_dual_69 d_S_dual_72 hout (Nat.le_of_ble_eq_true rfl) (Nat.le_of_ble_eq_true rfl) (Nat.le_of_ble_eq_true rfl) (Nat.le_of_ble_eq_true rfl) hlocks
      · replace hm := if_t c9 hm
        cases hm
        obtain ⟨sa, hsa⟩ := hE.2.2.2.2 (139, "no such piece or order") (List.mem_of_getElem? (i := 5) rfl)
        exact xt_throw (cls := "java/lang/IndexOutOfBoundsException") (names := xnm) hx hb hst hown (by decide +kernel) xnm_fit hk5 hk6 hsa (hat_0 hts hE) (hl.1.trans hml.symm) d_S_dual_43 d_S_dual_46 d_S_dual_47 d_S_dual_49 d_S_dual_52 hout (Nat.le_of_ble_eq_true rfl) (Nat.le_of_ble_eq_true rfl) (Nat.le_of_ble_eq_true rfl) (Nat.le_of_ble_eq_true rfl) hlocks
    · replace hm := if_t c9 hm
      refine lv_aload_n hx hb d_S_dual_23 rfl (lv_at hl 0 rfl) ?_
      refine va_get (D := (dC, dI)) (ci := 4) (v := .ref pq) (C := R_S) (T := F_S) (N := 11) hx hb hts hk1 hown hK hP 0 rfl rfl 0 (by decide) hk7 (fun _ h9 => h9) rfl d_S_dual_24 ?_
      refine lv_goto (tgt := 34) hx hb d_S_dual_27 (by decide) ?_
      refine lv_astore_n (lv' := [(3, .ref pq), (0, .ref sq), (1, .int x1), (2, .int x2)]) hx hb d_S_dual_34 rfl hl (by decide) rfl (fun ls hl => ?_)
      refine lv_aload_n hx hb d_S_dual_35 rfl (lv_at hl 0 rfl) ?_
      refine lv_iload_n hx hb d_S_dual_36 rfl (lv_at hl 3 rfl) ?_
      obtain ⟨r9, hc, hm⟩ := bd hm
      try dsimp only at hm
      refine vp_callSi (W.runV (As := [.int x2]) (rest := []) ⟨hx, hb, hml, hown, hts⟩ (c_B_has l dC dI cI pq pq1 pq2 pq3 pq4 p_thicks p_wides p_lengths p_grades p_count x2 N r9 hc) (cwV 1 hts (gV (w0 409 rfl) (w0 410 rfl) (w0 411 rfl) (w0 29 rfl) (w0 412 rfl)) rfl rfl rfl q_B_has ⟨Nat.le_of_ble_eq_true rfl, Nat.le_of_ble_eq_true rfl⟩) (ro_preV [1, 2, 3, 4, 5] rfl hK hP hN 0 0 (R_B, F_B, 5) rfl rfl) rfl rfl hl.1 rfl (lv_room (Nat.le_of_ble_eq_true rfl)) d_S_dual_37 ⟨Nat.le_of_ble_eq_true rfl, Nat.le_of_ble_eq_true rfl⟩) (fun r9 hr9 => ?_)
      subst hr9
      refine lv_if_ne (tgt := 53) hx hb d_S_dual_40 (by decide) (fun c9 => ?_) (fun c9 => ?_)
      · replace hm := if_f c9 hm
        refine lv_aload_n hx hb d_S_dual_53 rfl (lv_at hl 1 rfl) ?_
        refine va_get (D := (dC, dI)) (ci := 4) (v := .ref mq) (C := R_S) (T := F_S) (N := 11) hx hb hts hk1 hown hK hP 0 rfl rfl 6 (by decide) hk2 (fun _ h9 => h9) rfl d_S_dual_54 ?_
        obtain ⟨r10, hc, hm⟩ := bd hm
        try dsimp only at hm
        refine vp_callSi (W.runV (As := []) (rest := []) ⟨hx, hb, hml, hown, hts⟩ (c_M_isUpToDate l dC dI cI mq mq1 mq2 mq3 mq4 mq5 m_gains m_best m_chosen m_pieceDuals m_orderDuals m_pieceCount m_orderCount m_pairs m_worthSum m_upToDate  N r10 hc) (cwV 0 hts (gV (w0 460 rfl) (w0 461 rfl) (w0 462 rfl) (w0 32 rfl) (w0 463 rfl)) rfl rfl rfl q_M_isUpToDate ⟨Nat.le_of_ble_eq_true rfl, Nat.le_of_ble_eq_true rfl⟩) (ro_preV [18, 19, 20, 21, 22, 23] rfl hK hP hN 3 0 (R_M, F_M, 10) rfl rfl) rfl rfl hl.1 rfl (lv_room (Nat.le_of_ble_eq_true rfl)) d_S_dual_57 ⟨Nat.le_of_ble_eq_true rfl, Nat.le_of_ble_eq_true rfl⟩) (fun r9 hr9 => ?_)
        subst hr9
        refine lv_if_ne (tgt := 73) hx hb d_S_dual_60 (by decide) (fun c9 => ?_) (fun c9 => ?_)
        · replace hm := if_f c9 hm
          refine lv_iload_n hx hb d_S_dual_73 rfl (lv_at hl 2 rfl) ?_
          refine lv_if_ne (tgt := 88) hx hb d_S_dual_74 (by decide) (fun c9 => ?_) (fun c9 => ?_)
          · replace hm := if_f c9 hm
            refine lv_aload_n hx hb d_S_dual_88 rfl (lv_at hl 1 rfl) ?_
            refine va_get (D := (dC, dI)) (ci := 4) (v := .ref mq) (C := R_S) (T := F_S) (N := 11) hx hb hts hk1 hown hK hP 0 rfl rfl 6 (by decide) hk2 (fun _ h9 => h9) rfl d_S_dual_89 ?_
            refine lv_iload_n hx hb d_S_dual_92 rfl (lv_at hl 3 rfl) ?_
            obtain ⟨r11, hc, hm⟩ := bd hm
            try dsimp only at hm
            refine vp_callSi (W.runV (As := [.int x2]) (rest := []) ⟨hx, hb, hml, hown, hts⟩ (c_M_dualOfOrder l dC dI cI mq mq1 mq2 mq3 mq4 mq5 m_gains m_best m_chosen m_pieceDuals m_orderDuals m_pieceCount m_orderCount m_pairs m_worthSum m_upToDate x2 N r11 hc) (cwV 1 hts (gV (w0 482 rfl) (w0 483 rfl) (w0 484 rfl) (w0 32 rfl) (w0 485 rfl)) rfl rfl rfl q_M_dualOfOrder ⟨Nat.le_of_ble_eq_true rfl, Nat.le_of_ble_eq_true rfl⟩) (ro_preV [18, 19, 20, 21, 22, 23] rfl hK hP hN 3 0 (R_M, F_M, 10) rfl rfl) rfl rfl hl.1 rfl (lv_room (Nat.le_of_ble_eq_true rfl)) d_S_dual_93 ⟨Nat.le_of_ble_eq_true rfl, Nat.le_of_ble_eq_true rfl⟩) (fun r9 hr9 => ?_)
            subst hr9
            cases hm
          · replace hm := if_t c9 hm
            refine lv_aload_n hx hb d_S_dual_77 rfl (lv_at hl 1 rfl) ?_
            refine va_get (D := (dC, dI)) (ci := 4) (v := .ref mq) (C := R_S) (T := F_S) (N := 11) hx hb hts hk1 hown hK hP 0 rfl rfl 6 (by decide) hk2 (fun _ h9 => h9) rfl d_S_dual_78 ?_
            refine lv_iload_n hx hb d_S_dual_81 rfl (lv_at hl 3 rfl) ?_
            obtain ⟨r13, hc, hm⟩ := bd hm
            try dsimp only at hm
            refine vp_callSi (W.runV (As := [.int x2]) (rest := []) ⟨hx, hb, hml, hown, hts⟩ (c_M_dualOfPiece l dC dI cI mq mq1 mq2 mq3 mq4 mq5 m_gains m_best m_chosen m_pieceDuals m_orderDuals m_pieceCount m_orderCount m_pairs m_worthSum m_upToDate x2 N r13 hc) (cwV 1 hts (gV (w0 478 rfl) (w0 479 rfl) (w0 480 rfl) (w0 32 rfl) (w0 481 rfl)) rfl rfl rfl q_M_dualOfPiece ⟨Nat.le_of_ble_eq_true rfl, Nat.le_of_ble_eq_true rfl⟩) (ro_preV [18, 19, 20, 21, 22, 23] rfl hK hP hN 3 0 (R_M, F_M, 10) rfl rfl) rfl rfl hl.1 rfl (lv_room (Nat.le_of_ble_eq_true rfl)) d_S_dual_82 ⟨Nat.le_of_ble_eq_true rfl, Nat.le_of_ble_eq_true rfl⟩) (fun r9 hr9 => ?_)
            subst hr9
            refine lv_goto (tgt := 96) hx hb d_S_dual_85 (by decide) ?_
            cases hm
        · replace hm := if_t c9 hm
          cases hm
          obtain ⟨sa, hsa⟩ := hE.2.2.2.2 (147, "no run since the last piece or order came") (List.mem_of_getElem? (i := 6) rfl)
          exact xt_throw (cls := "java/lang/IllegalStateException") (names := xnm) hx hb hst hown (by decide +kernel) xnm_fit hk3 hk4 hsa (hat_1 hts hE) (hl.1.trans hml.symm) d_S_dual_63 d_S_dual_66 d_S_dual_67 d_S_dual_69 d_S_dual_72 hout (Nat.le_of_ble_eq_true rfl) (Nat.le_of_ble_eq_true rfl) (Nat.le_of_ble_eq_true rfl) (Nat.le_of_ble_eq_true rfl) hlocks
      · replace hm := if_t c9 hm
        cases hm
        obtain ⟨sa, hsa⟩ := hE.2.2.2.2 (139, "no such piece or order") (List.mem_of_getElem? (i := 5) rfl)
        exact xt_throw (cls := "java/lang/IndexOutOfBoundsException") (names := xnm) hx hb hst hown (by decide +kernel) xnm_fit hk5 hk6 hsa (hat_0 hts hE) (hl.1.trans hml.symm) d_S_dual_43 d_S_dual_46 d_S_dual_47 d_S_dual_49 d_S_dual_52 hout (Nat.le_of_ble_eq_true rfl) (Nat.le_of_ble_eq_true rfl) (Nat.le_of_ble_eq_true rfl) (Nat.le_of_ble_eq_true rfl) hlocks
  · replace hm := if_f c9 hm
    refine lv_iload_n hx hb d_S_dual_4 rfl (lv_at hl 1 rfl) ?_
    refine lv_iconst (v := 1) hx hb d_S_dual_5 (by decide) ?_
    refine lv_icmp_eq (tgt := 19) hx hb d_S_dual_6 (by decide) (fun c9 => ?_) (fun c9 => ?_)
    · replace hm := if_t c9 hm
      refine lv_iload_n hx hb d_S_dual_19 rfl (lv_at hl 1 rfl) ?_
      refine lv_if_ne (tgt := 30) hx hb d_S_dual_20 (by decide) (fun c9 => ?_) (fun c9 => ?_)
      · replace hm := if_f c9 hm
        refine lv_aload_n hx hb d_S_dual_30 rfl (lv_at hl 0 rfl) ?_
        refine va_get (D := (dC, dI)) (ci := 4) (v := .ref oq) (C := R_S) (T := F_S) (N := 11) hx hb hts hk1 hown hK hP 0 rfl rfl 1 (by decide) hk0 (fun _ h9 => h9) rfl d_S_dual_31 ?_
        refine lv_astore_n (lv' := [(3, .ref oq), (0, .ref sq), (1, .int x1), (2, .int x2)]) hx hb d_S_dual_34 rfl hl (by decide) rfl (fun ls hl => ?_)
        refine lv_aload_n hx hb d_S_dual_35 rfl (lv_at hl 0 rfl) ?_
        refine lv_iload_n hx hb d_S_dual_36 rfl (lv_at hl 3 rfl) ?_
        obtain ⟨r17, hc, hm⟩ := bd hm
        try dsimp only at hm
        refine vp_callSi (W.runV (As := [.int x2]) (rest := []) ⟨hx, hb, hml, hown, hts⟩ (c_B_has l dC dI cI oq oq1 oq2 oq3 oq4 o_thicks o_wides o_lengths o_grades o_count x2 N r17 hc) (cwV 1 hts (gV (w0 409 rfl) (w0 410 rfl) (w0 411 rfl) (w0 29 rfl) (w0 412 rfl)) rfl rfl rfl q_B_has ⟨Nat.le_of_ble_eq_true rfl, Nat.le_of_ble_eq_true rfl⟩) (ro_preV [6, 7, 8, 9, 10] rfl hK hP hN 0 0 (R_B, F_B, 5) rfl rfl) rfl rfl hl.1 rfl (lv_room (Nat.le_of_ble_eq_true rfl)) d_S_dual_37 ⟨Nat.le_of_ble_eq_true rfl, Nat.le_of_ble_eq_true rfl⟩) (fun r9 hr9 => ?_)
        subst hr9
        refine lv_if_ne (tgt := 53) hx hb d_S_dual_40 (by decide) (fun c9 => ?_) (fun c9 => ?_)
        · replace hm := if_f c9 hm
          refine lv_aload_n hx hb d_S_dual_53 rfl (lv_at hl 1 rfl) ?_
          refine va_get (D := (dC, dI)) (ci := 4) (v := .ref mq) (C := R_S) (T := F_S) (N := 11) hx hb hts hk1 hown hK hP 0 rfl rfl 6 (by decide) hk2 (fun _ h9 => h9) rfl d_S_dual_54 ?_
          obtain ⟨r18, hc, hm⟩ := bd hm
          try dsimp only at hm
          refine vp_callSi (W.runV (As := []) (rest := []) ⟨hx, hb, hml, hown, hts⟩ (c_M_isUpToDate l dC dI cI mq mq1 mq2 mq3 mq4 mq5 m_gains m_best m_chosen m_pieceDuals m_orderDuals m_pieceCount m_orderCount m_pairs m_worthSum m_upToDate  N r18 hc) (cwV 0 hts (gV (w0 460 rfl) (w0 461 rfl) (w0 462 rfl) (w0 32 rfl) (w0 463 rfl)) rfl rfl rfl q_M_isUpToDate ⟨Nat.le_of_ble_eq_true rfl, Nat.le_of_ble_eq_true rfl⟩) (ro_preV [18, 19, 20, 21, 22, 23] rfl hK hP hN 3 0 (R_M, F_M, 10) rfl rfl) rfl rfl hl.1 rfl (lv_room (Nat.le_of_ble_eq_true rfl)) d_S_dual_57 ⟨Nat.le_of_ble_eq_true rfl, Nat.le_of_ble_eq_true rfl⟩) (fun r9 hr9 => ?_)
          subst hr9
          refine lv_if_ne (tgt := 73) hx hb d_S_dual_60 (by decide) (fun c9 => ?_) (fun c9 => ?_)
          · replace hm := if_f c9 hm
            refine lv_iload_n hx hb d_S_dual_73 rfl (lv_at hl 2 rfl) ?_
            refine lv_if_ne (tgt := 88) hx hb d_S_dual_74 (by decide) (fun c9 => ?_) (fun c9 => ?_)
            · replace hm := if_f c9 hm
              refine lv_aload_n hx hb d_S_dual_88 rfl (lv_at hl 1 rfl) ?_
              refine va_get (D := (dC, dI)) (ci := 4) (v := .ref mq) (C := R_S) (T := F_S) (N := 11) hx hb hts hk1 hown hK hP 0 rfl rfl 6 (by decide) hk2 (fun _ h9 => h9) rfl d_S_dual_89 ?_
              refine lv_iload_n hx hb d_S_dual_92 rfl (lv_at hl 3 rfl) ?_
              obtain ⟨r19, hc, hm⟩ := bd hm
              try dsimp only at hm
              refine vp_callSi (W.runV (As := [.int x2]) (rest := []) ⟨hx, hb, hml, hown, hts⟩ (c_M_dualOfOrder l dC dI cI mq mq1 mq2 mq3 mq4 mq5 m_gains m_best m_chosen m_pieceDuals m_orderDuals m_pieceCount m_orderCount m_pairs m_worthSum m_upToDate x2 N r19 hc) (cwV 1 hts (gV (w0 482 rfl) (w0 483 rfl) (w0 484 rfl) (w0 32 rfl) (w0 485 rfl)) rfl rfl rfl q_M_dualOfOrder ⟨Nat.le_of_ble_eq_true rfl, Nat.le_of_ble_eq_true rfl⟩) (ro_preV [18, 19, 20, 21, 22, 23] rfl hK hP hN 3 0 (R_M, F_M, 10) rfl rfl) rfl rfl hl.1 rfl (lv_room (Nat.le_of_ble_eq_true rfl)) d_S_dual_93 ⟨Nat.le_of_ble_eq_true rfl, Nat.le_of_ble_eq_true rfl⟩) (fun r9 hr9 => ?_)
              subst hr9
              cases hm
            · replace hm := if_t c9 hm
              refine lv_aload_n hx hb d_S_dual_77 rfl (lv_at hl 1 rfl) ?_
              refine va_get (D := (dC, dI)) (ci := 4) (v := .ref mq) (C := R_S) (T := F_S) (N := 11) hx hb hts hk1 hown hK hP 0 rfl rfl 6 (by decide) hk2 (fun _ h9 => h9) rfl d_S_dual_78 ?_
              refine lv_iload_n hx hb d_S_dual_81 rfl (lv_at hl 3 rfl) ?_
              obtain ⟨r21, hc, hm⟩ := bd hm
              try dsimp only at hm
              refine vp_callSi (W.runV (As := [.int x2]) (rest := []) ⟨hx, hb, hml, hown, hts⟩ (c_M_dualOfPiece l dC dI cI mq mq1 mq2 mq3 mq4 mq5 m_gains m_best m_chosen m_pieceDuals m_orderDuals m_pieceCount m_orderCount m_pairs m_worthSum m_upToDate x2 N r21 hc) (cwV 1 hts (gV (w0 478 rfl) (w0 479 rfl) (w0 480 rfl) (w0 32 rfl) (w0 481 rfl)) rfl rfl rfl q_M_dualOfPiece ⟨Nat.le_of_ble_eq_true rfl, Nat.le_of_ble_eq_true rfl⟩) (ro_preV [18, 19, 20, 21, 22, 23] rfl hK hP hN 3 0 (R_M, F_M, 10) rfl rfl) rfl rfl hl.1 rfl (lv_room (Nat.le_of_ble_eq_true rfl)) d_S_dual_82 ⟨Nat.le_of_ble_eq_true rfl, Nat.le_of_ble_eq_true rfl⟩) (fun r9 hr9 => ?_)
              subst hr9
              refine lv_goto (tgt := 96) hx hb d_S_dual_85 (by decide) ?_
              cases hm
          · replace hm := if_t c9 hm
            cases hm
            obtain ⟨sa, hsa⟩ := hE.2.2.2.2 (147, "no run since the last piece or order came") (List.mem_of_getElem? (i := 6) rfl)
            exact xt_throw (cls := "java/lang/IllegalStateException") (names := xnm) hx hb hst hown (by decide +kernel) xnm_fit hk3 hk4 hsa (hat_1 hts hE) (hl.1.trans hml.symm) d_S_dual_63 d_S_dual_66 d_S_dual_67 d_S_dual_69 d_S_dual_72 hout (Nat.le_of_ble_eq_true rfl) (Nat.le_of_ble_eq_true rfl) (Nat.le_of_ble_eq_true rfl) (Nat.le_of_ble_eq_true rfl) hlocks
        · replace hm := if_t c9 hm
          cases hm
          obtain ⟨sa, hsa⟩ := hE.2.2.2.2 (139, "no such piece or order") (List.mem_of_getElem? (i := 5) rfl)
          exact xt_throw (cls := "java/lang/IndexOutOfBoundsException") (names := xnm) hx hb hst hown (by decide +kernel) xnm_fit hk5 hk6 hsa (hat_0 hts hE) (hl.1.trans hml.symm) d_S_dual_43 d_S_dual_46 d_S_dual_47 d_S_dual_49 d_S_dual_52 hout (Nat.le_of_ble_eq_true rfl) (Nat.le_of_ble_eq_true rfl) (Nat.le_of_ble_eq_true rfl) (Nat.le_of_ble_eq_true rfl) hlocks
      · replace hm := if_t c9 hm
        refine lv_aload_n hx hb d_S_dual_23 rfl (lv_at hl 0 rfl) ?_
        refine va_get (D := (dC, dI)) (ci := 4) (v := .ref pq) (C := R_S) (T := F_S) (N := 11) hx hb hts hk1 hown hK hP 0 rfl rfl 0 (by decide) hk7 (fun _ h9 => h9) rfl d_S_dual_24 ?_
        refine lv_goto (tgt := 34) hx hb d_S_dual_27 (by decide) ?_
        refine lv_astore_n (lv' := [(3, .ref pq), (0, .ref sq), (1, .int x1), (2, .int x2)]) hx hb d_S_dual_34 rfl hl (by decide) rfl (fun ls hl => ?_)
        refine lv_aload_n hx hb d_S_dual_35 rfl (lv_at hl 0 rfl) ?_
        refine lv_iload_n hx hb d_S_dual_36 rfl (lv_at hl 3 rfl) ?_
        obtain ⟨r25, hc, hm⟩ := bd hm
        try dsimp only at hm
        refine vp_callSi (W.runV (As := [.int x2]) (rest := []) ⟨hx, hb, hml, hown, hts⟩ (c_B_has l dC dI cI pq pq1 pq2 pq3 pq4 p_thicks p_wides p_lengths p_grades p_count x2 N r25 hc) (cwV 1 hts (gV (w0 409 rfl) (w0 410 rfl) (w0 411 rfl) (w0 29 rfl) (w0 412 rfl)) rfl rfl rfl q_B_has ⟨Nat.le_of_ble_eq_true rfl, Nat.le_of_ble_eq_true rfl⟩) (ro_preV [1, 2, 3, 4, 5] rfl hK hP hN 0 0 (R_B, F_B, 5) rfl rfl) rfl rfl hl.1 rfl (lv_room (Nat.le_of_ble_eq_true rfl)) d_S_dual_37 ⟨Nat.le_of_ble_eq_true rfl, Nat.le_of_ble_eq_true rfl⟩) (fun r9 hr9 => ?_)
        subst hr9
        refine lv_if_ne (tgt := 53) hx hb d_S_dual_40 (by decide) (fun c9 => ?_) (fun c9 => ?_)
        · replace hm := if_f c9 hm
          refine lv_aload_n hx hb d_S_dual_53 rfl (lv_at hl 1 rfl) ?_
          refine va_get (D := (dC, dI)) (ci := 4) (v := .ref mq) (C := R_S) (T := F_S) (N := 11) hx hb hts hk1 hown hK hP 0 rfl rfl 6 (by decide) hk2 (fun _ h9 => h9) rfl d_S_dual_54 ?_
          obtain ⟨r26, hc, hm⟩ := bd hm
          try dsimp only at hm
          refine vp_callSi (W.runV (As := []) (rest := []) ⟨hx, hb, hml, hown, hts⟩ (c_M_isUpToDate l dC dI cI mq mq1 mq2 mq3 mq4 mq5 m_gains m_best m_chosen m_pieceDuals m_orderDuals m_pieceCount m_orderCount m_pairs m_worthSum m_upToDate  N r26 hc) (cwV 0 hts (gV (w0 460 rfl) (w0 461 rfl) (w0 462 rfl) (w0 32 rfl) (w0 463 rfl)) rfl rfl rfl q_M_isUpToDate ⟨Nat.le_of_ble_eq_true rfl, Nat.le_of_ble_eq_true rfl⟩) (ro_preV [18, 19, 20, 21, 22, 23] rfl hK hP hN 3 0 (R_M, F_M, 10) rfl rfl) rfl rfl hl.1 rfl (lv_room (Nat.le_of_ble_eq_true rfl)) d_S_dual_57 ⟨Nat.le_of_ble_eq_true rfl, Nat.le_of_ble_eq_true rfl⟩) (fun r9 hr9 => ?_)
          subst hr9
          refine lv_if_ne (tgt := 73) hx hb d_S_dual_60 (by decide) (fun c9 => ?_) (fun c9 => ?_)
          · replace hm := if_f c9 hm
            refine lv_iload_n hx hb d_S_dual_73 rfl (lv_at hl 2 rfl) ?_
            refine lv_if_ne (tgt := 88) hx hb d_S_dual_74 (by decide) (fun c9 => ?_) (fun c9 => ?_)
            · replace hm := if_f c9 hm
              refine lv_aload_n hx hb d_S_dual_88 rfl (lv_at hl 1 rfl) ?_
              refine va_get (D := (dC, dI)) (ci := 4) (v := .ref mq) (C := R_S) (T := F_S) (N := 11) hx hb hts hk1 hown hK hP 0 rfl rfl 6 (by decide) hk2 (fun _ h9 => h9) rfl d_S_dual_89 ?_
              refine lv_iload_n hx hb d_S_dual_92 rfl (lv_at hl 3 rfl) ?_
              obtain ⟨r27, hc, hm⟩ := bd hm
              try dsimp only at hm
              refine vp_callSi (W.runV (As := [.int x2]) (rest := []) ⟨hx, hb, hml, hown, hts⟩ (c_M_dualOfOrder l dC dI cI mq mq1 mq2 mq3 mq4 mq5 m_gains m_best m_chosen m_pieceDuals m_orderDuals m_pieceCount m_orderCount m_pairs m_worthSum m_upToDate x2 N r27 hc) (cwV 1 hts (gV (w0 482 rfl) (w0 483 rfl) (w0 484 rfl) (w0 32 rfl) (w0 485 rfl)) rfl rfl rfl q_M_dualOfOrder ⟨Nat.le_of_ble_eq_true rfl, Nat.le_of_ble_eq_true rfl⟩) (ro_preV [18, 19, 20, 21, 22, 23] rfl hK hP hN 3 0 (R_M, F_M, 10) rfl rfl) rfl rfl hl.1 rfl (lv_room (Nat.le_of_ble_eq_true rfl)) d_S_dual_93 ⟨Nat.le_of_ble_eq_true rfl, Nat.le_of_ble_eq_true rfl⟩) (fun r9 hr9 => ?_)
              subst hr9
              cases hm
            · replace hm := if_t c9 hm
              refine lv_aload_n hx hb d_S_dual_77 rfl (lv_at hl 1 rfl) ?_
              refine va_get (D := (dC, dI)) (ci := 4) (v := .ref mq) (C := R_S) (T := F_S) (N := 11) hx hb hts hk1 hown hK hP 0 rfl rfl 6 (by decide) hk2 (fun _ h9 => h9) rfl d_S_dual_78 ?_
              refine lv_iload_n hx hb d_S_dual_81 rfl (lv_at hl 3 rfl) ?_
              obtain ⟨r29, hc, hm⟩ := bd hm
              try dsimp only at hm
              refine vp_callSi (W.runV (As := [.int x2]) (rest := []) ⟨hx, hb, hml, hown, hts⟩ (c_M_dualOfPiece l dC dI cI mq mq1 mq2 mq3 mq4 mq5 m_gains m_best m_chosen m_pieceDuals m_orderDuals m_pieceCount m_orderCount m_pairs m_worthSum m_upToDate x2 N r29 hc) (cwV 1 hts (gV (w0 478 rfl) (w0 479 rfl) (w0 480 rfl) (w0 32 rfl) (w0 481 rfl)) rfl rfl rfl q_M_dualOfPiece ⟨Nat.le_of_ble_eq_true rfl, Nat.le_of_ble_eq_true rfl⟩) (ro_preV [18, 19, 20, 21, 22, 23] rfl hK hP hN 3 0 (R_M, F_M, 10) rfl rfl) rfl rfl hl.1 rfl (lv_room (Nat.le_of_ble_eq_true rfl)) d_S_dual_82 ⟨Nat.le_of_ble_eq_true rfl, Nat.le_of_ble_eq_true rfl⟩) (fun r9 hr9 => ?_)
              subst hr9
              refine lv_goto (tgt := 96) hx hb d_S_dual_85 (by decide) ?_
              cases hm
          · replace hm := if_t c9 hm
            cases hm
            obtain ⟨sa, hsa⟩ := hE.2.2.2.2 (147, "no run since the last piece or order came") (List.mem_of_getElem? (i := 6) rfl)
            exact xt_throw (cls := "java/lang/IllegalStateException") (names := xnm) hx hb hst hown (by decide +kernel) xnm_fit hk3 hk4 hsa (hat_1 hts hE) (hl.1.trans hml.symm) d_S_dual_63 d_S_dual_66 d_S_dual_67 d_S_dual_69 d_S_dual_72 hout (Nat.le_of_ble_eq_true rfl) (Nat.le_of_ble_eq_true rfl) (Nat.le_of_ble_eq_true rfl) (Nat.le_of_ble_eq_true rfl) hlocks
        · replace hm := if_t c9 hm
          cases hm
          obtain ⟨sa, hsa⟩ := hE.2.2.2.2 (139, "no such piece or order") (List.mem_of_getElem? (i := 5) rfl)
          exact xt_throw (cls := "java/lang/IndexOutOfBoundsException") (names := xnm) hx hb hst hown (by decide +kernel) xnm_fit hk5 hk6 hsa (hat_0 hts hE) (hl.1.trans hml.symm) d_S_dual_43 d_S_dual_46 d_S_dual_47 d_S_dual_49 d_S_dual_52 hout (Nat.le_of_ble_eq_true rfl) (Nat.le_of_ble_eq_true rfl) (Nat.le_of_ble_eq_true rfl) (Nat.le_of_ble_eq_true rfl) hlocks
    · replace hm := if_f c9 hm
      cases hm
      obtain ⟨sa, hsa⟩ := hE.2.2.2.2 (132, "no such side") (List.mem_of_getElem? (i := 4) rfl)
      exact xt_throw (cls := "java/lang/IndexOutOfBoundsException") (names := xnm) hx hb hst hown (by decide +kernel) xnm_fit hk5 hk6 hsa (hat_0 hts hE) (hl.1.trans hml.symm) d_S_dual_9 d_S_dual_12 d_S_dual_13 d_S_dual_15 d_S_dual_18 hout (Nat.le_of_ble_eq_true rfl) (Nat.le_of_ble_eq_true rfl) (Nat.le_of_ble_eq_true rfl) (Nat.le_of_ble_eq_true rfl) hlocks

def w_S_several : List Cond := .code y_S_several b_S_several 3 (some .int) :: W0
theorem q_S_several : y_S_several.cls = R_S ∧ y_S_several.cls ≠ "java/lang/invoke/MethodHandle" ∧ y_S_several.cls ≠ "java/lang/invoke/VarHandle" ∧ (parseMethodDescriptor y_S_several.desc).map (fun d => d.parameters.length) = some 1 := by decide +kernel
def m_S_several (N : Nat) (p_thicks : Nat → Int32) (p_wides : Nat → Int32) (p_lengths : Nat → Int32) (p_grades : Nat → Int32) (p_count : Int32) (o_thicks : Nat → Int32) (o_wides : Nat → Int32) (o_lengths : Nat → Int32) (o_grades : Nat → Int32) (o_count : Int32) (s_cameOn : Nat → Int32) (s_told : Nat → Int32) (u_ordersOfPiece : Nat → Int32) (u_usedOrders : Int32) (h_orderOfPiece : Nat → Int32) (h_heldOrders : Int32) (s_today : Int32) (s_cutOff : Int32) (s_agingOff : Int32) (x1 : Int32) : Option (Nat ⊕ (Int32 × (Nat → Int32) × Int32 × (Nat → Int32) × Int32)) :=
  ((m_S_refuseUnknownPiece p_count x1).bind (tk fun _ =>
  ((m_U_isPieceUsed u_ordersOfPiece x1).bind fun r2 =>
    (if r2 = 0 then
      ((m_H_isPieceHeld h_orderOfPiece x1).bind fun r3 =>
        (if r3 = 0 then
          ((m_S_bestSet N p_thicks p_wides p_lengths p_grades o_thicks o_wides o_lengths o_grades o_count s_cameOn s_told u_ordersOfPiece u_usedOrders h_orderOfPiece h_heldOrders s_today s_cutOff s_agingOff x1).bind fun r4 =>
            (if r4 = 0 then
              ((m_J_bitCount r4).bind fun r5 =>
                some (.inr (r5, u_ordersOfPiece, u_usedOrders, h_orderOfPiece, h_heldOrders)))
             else
              ((m_S_cutPiece u_ordersOfPiece u_usedOrders h_orderOfPiece h_heldOrders x1 r4).bind fun (u8, u9, u10, u11) =>
                ((m_J_bitCount r4).bind fun r12 =>
                  some (.inr (r12, u8, u9, u10, u11))))))
         else
          some (.inl 1)))
     else
      some (.inl 1)))))
set_option maxHeartbeats 4000000 in
set_option maxRecDepth 100000 in
theorem c_S_several (l : Launch) (dC : Nat → ClassId) (dI : Nat → Nat → Nat) (cI : ClassId) (sq pq pq1 pq2 pq3 pq4 oq oq1 oq2 oq3 oq4 sq3 sq4 uq uq1 hq hq1 hq2 mq mq1 mq2 mq3 mq4 mq5 : Nat) (sz : Nat) (p_thicks : Nat → Int32) (p_wides : Nat → Int32) (p_lengths : Nat → Int32) (p_grades : Nat → Int32) (p_count : Int32) (o_thicks : Nat → Int32) (o_wides : Nat → Int32) (o_lengths : Nat → Int32) (o_grades : Nat → Int32) (o_count : Int32) (s_cameOn : Nat → Int32) (s_told : Nat → Int32) (u_ordersOfPiece : Nat → Int32) (u_usedOrders : Int32) (h_orderOfPiece : Nat → Int32) (h_lastDay : Nat → Int32) (h_heldOrders : Int32) (m_gains : Nat → Int32) (m_best : Nat → Int32) (m_chosen : Nat → Int32) (m_pieceDuals : Nat → Int32) (m_orderDuals : Nat → Int32) (m_pieceCount : Int32) (m_orderCount : Int32) (m_pairs : Int32) (m_worthSum : Int32) (m_upToDate : Int32) (s_today : Int32) (s_cutOff : Int32) (s_agingOff : Int32) (s_saleAge : Int32) (x1 : Int32) (N : Nat) (res : Int32 × (Nat → Int32) × Int32 × (Nat → Int32) × Int32) (hm : m_S_several N p_thicks p_wides p_lengths p_grades p_count o_thicks o_wides o_lengths o_grades o_count s_cameOn s_told u_ordersOfPiece u_usedOrders h_orderOfPiece h_heldOrders s_today s_cutOff s_agingOff x1 = some (.inr res)) : Met l y_S_several w_S_several ({ frames := 5, cells := 0, slots := 0, locals := 117 } : Room) (va_Pc [.ref sq, .int x1] (fun U => U.heap.size = sz ∧ va_P (dC, dI) classes [(sq, .inr (4, [.ref pq, .ref oq, .ref sq3, .ref sq4, .ref uq, .ref hq, .ref mq, .int s_today, .int s_cutOff, .int s_agingOff, .int s_saleAge])), (pq, .inr (0, [.ref pq1, .ref pq2, .ref pq3, .ref pq4, .int p_count])), (pq1, .inl (cI, 10, .inl p_thicks)), (pq2, .inl (cI, 10, .inl p_wides)), (pq3, .inl (cI, 10, .inl p_lengths)), (pq4, .inl (cI, 10, .inl p_grades)), (oq, .inr (0, [.ref oq1, .ref oq2, .ref oq3, .ref oq4, .int o_count])), (oq1, .inl (cI, 10, .inl o_thicks)), (oq2, .inl (cI, 10, .inl o_wides)), (oq3, .inl (cI, 10, .inl o_lengths)), (oq4, .inl (cI, 10, .inl o_grades)), (sq3, .inl (cI, 10, .inl s_cameOn)), (sq4, .inl (cI, 100, .inl s_told)), (uq, .inr (1, [.ref uq1, .int u_usedOrders])), (uq1, .inl (cI, 10, .inl u_ordersOfPiece)), (hq, .inr (2, [.ref hq1, .ref hq2, .int h_heldOrders])), (hq1, .inl (cI, 10, .inl h_orderOfPiece)), (hq2, .inl (cI, 10, .inl h_lastDay)), (mq, .inr (3, [.ref mq1, .ref mq2, .ref mq3, .ref mq4, .ref mq5, .int m_pieceCount, .int m_orderCount, .int m_pairs, .int m_worthSum, .int m_upToDate])), (mq1, .inl (cI, 100, .inl m_gains)), (mq2, .inl (cI, 11264, .inl m_best)), (mq3, .inl (cI, 10, .inl m_chosen)), (mq4, .inl (cI, 10, .inl m_pieceDuals)), (mq5, .inl (cI, 10, .inl m_orderDuals))] U.heap ∧ va_K (dC, dI) classes [(cI, .int)] U ∧ va_D (fun _ => True) [(sq, .inr (4, [.ref pq, .ref oq, .ref sq3, .ref sq4, .ref uq, .ref hq, .ref mq, .int s_today, .int s_cutOff, .int s_agingOff, .int s_saleAge])), (pq, .inr (0, [.ref pq1, .ref pq2, .ref pq3, .ref pq4, .int p_count])), (pq1, .inl (cI, 10, .inl p_thicks)), (pq2, .inl (cI, 10, .inl p_wides)), (pq3, .inl (cI, 10, .inl p_lengths)), (pq4, .inl (cI, 10, .inl p_grades)), (oq, .inr (0, [.ref oq1, .ref oq2, .ref oq3, .ref oq4, .int o_count])), (oq1, .inl (cI, 10, .inl o_thicks)), (oq2, .inl (cI, 10, .inl o_wides)), (oq3, .inl (cI, 10, .inl o_lengths)), (oq4, .inl (cI, 10, .inl o_grades)), (sq3, .inl (cI, 10, .inl s_cameOn)), (sq4, .inl (cI, 100, .inl s_told)), (uq, .inr (1, [.ref uq1, .int u_usedOrders])), (uq1, .inl (cI, 10, .inl u_ordersOfPiece)), (hq, .inr (2, [.ref hq1, .ref hq2, .int h_heldOrders])), (hq1, .inl (cI, 10, .inl h_orderOfPiece)), (hq2, .inl (cI, 10, .inl h_lastDay)), (mq, .inr (3, [.ref mq1, .ref mq2, .ref mq3, .ref mq4, .ref mq5, .int m_pieceCount, .int m_orderCount, .int m_pairs, .int m_worthSum, .int m_upToDate])), (mq1, .inl (cI, 100, .inl m_gains)), (mq2, .inl (cI, 11264, .inl m_best)), (mq3, .inl (cI, 10, .inl m_chosen)), (mq4, .inl (cI, 10, .inl m_pieceDuals)), (mq5, .inl (cI, 10, .inl m_orderDuals))] ∧ nw U)) (va_Qi (fun (x : Int32) (_ : Unit) => res.1 = x) (fun _ t => va_P (dC, dI) classes [(sq, .inr (4, [.ref pq, .ref oq, .ref sq3, .ref sq4, .ref uq, .ref hq, .ref mq, .int s_today, .int s_cutOff, .int s_agingOff, .int s_saleAge])), (pq, .inr (0, [.ref pq1, .ref pq2, .ref pq3, .ref pq4, .int p_count])), (pq1, .inl (cI, 10, .inl p_thicks)), (pq2, .inl (cI, 10, .inl p_wides)), (pq3, .inl (cI, 10, .inl p_lengths)), (pq4, .inl (cI, 10, .inl p_grades)), (oq, .inr (0, [.ref oq1, .ref oq2, .ref oq3, .ref oq4, .int o_count])), (oq1, .inl (cI, 10, .inl o_thicks)), (oq2, .inl (cI, 10, .inl o_wides)), (oq3, .inl (cI, 10, .inl o_lengths)), (oq4, .inl (cI, 10, .inl o_grades)), (sq3, .inl (cI, 10, .inl s_cameOn)), (sq4, .inl (cI, 100, .inl s_told)), (uq, .inr (1, [.ref uq1, .int res.2.2.1])), (uq1, .inl (cI, 10, .inl res.2.1)), (hq, .inr (2, [.ref hq1, .ref hq2, .int res.2.2.2.2])), (hq1, .inl (cI, 10, .inl res.2.2.2.1)), (hq2, .inl (cI, 10, .inl h_lastDay)), (mq, .inr (3, [.ref mq1, .ref mq2, .ref mq3, .ref mq4, .ref mq5, .int m_pieceCount, .int m_orderCount, .int m_pairs, .int m_worthSum, .int m_upToDate])), (mq1, .inl (cI, 100, .inl m_gains)), (mq2, .inl (cI, 11264, .inl m_best)), (mq3, .inl (cI, 10, .inl m_chosen)), (mq4, .inl (cI, 10, .inl m_pieceDuals)), (mq5, .inl (cI, 10, .inl m_orderDuals))] t.heap ∧ va_K (dC, dI) classes [(cI, .int)] t ∧ va_D (va_A [(sq, .inr (4, [.ref pq, .ref oq, .ref sq3, .ref sq4, .ref uq, .ref hq, .ref mq, .int s_today, .int s_cutOff, .int s_agingOff, .int s_saleAge])), (pq, .inr (0, [.ref pq1, .ref pq2, .ref pq3, .ref pq4, .int p_count])), (pq1, .inl (cI, 10, .inl p_thicks)), (pq2, .inl (cI, 10, .inl p_wides)), (pq3, .inl (cI, 10, .inl p_lengths)), (pq4, .inl (cI, 10, .inl p_grades)), (oq, .inr (0, [.ref oq1, .ref oq2, .ref oq3, .ref oq4, .int o_count])), (oq1, .inl (cI, 10, .inl o_thicks)), (oq2, .inl (cI, 10, .inl o_wides)), (oq3, .inl (cI, 10, .inl o_lengths)), (oq4, .inl (cI, 10, .inl o_grades)), (sq3, .inl (cI, 10, .inl s_cameOn)), (sq4, .inl (cI, 100, .inl s_told)), (uq, .inr (1, [.ref uq1, .int u_usedOrders])), (uq1, .inl (cI, 10, .inl u_ordersOfPiece)), (hq, .inr (2, [.ref hq1, .ref hq2, .int h_heldOrders])), (hq1, .inl (cI, 10, .inl h_orderOfPiece)), (hq2, .inl (cI, 10, .inl h_lastDay)), (mq, .inr (3, [.ref mq1, .ref mq2, .ref mq3, .ref mq4, .ref mq5, .int m_pieceCount, .int m_orderCount, .int m_pairs, .int m_worthSum, .int m_upToDate])), (mq1, .inl (cI, 100, .inl m_gains)), (mq2, .inl (cI, 11264, .inl m_best)), (mq3, .inl (cI, 10, .inl m_chosen)), (mq4, .inl (cI, 10, .inl m_pieceDuals)), (mq5, .inl (cI, 10, .inl m_orderDuals))] sz) [(sq, .inr (4, [.ref pq, .ref oq, .ref sq3, .ref sq4, .ref uq, .ref hq, .ref mq, .int s_today, .int s_cutOff, .int s_agingOff, .int s_saleAge])), (pq, .inr (0, [.ref pq1, .ref pq2, .ref pq3, .ref pq4, .int p_count])), (pq1, .inl (cI, 10, .inl p_thicks)), (pq2, .inl (cI, 10, .inl p_wides)), (pq3, .inl (cI, 10, .inl p_lengths)), (pq4, .inl (cI, 10, .inl p_grades)), (oq, .inr (0, [.ref oq1, .ref oq2, .ref oq3, .ref oq4, .int o_count])), (oq1, .inl (cI, 10, .inl o_thicks)), (oq2, .inl (cI, 10, .inl o_wides)), (oq3, .inl (cI, 10, .inl o_lengths)), (oq4, .inl (cI, 10, .inl o_grades)), (sq3, .inl (cI, 10, .inl s_cameOn)), (sq4, .inl (cI, 100, .inl s_told)), (uq, .inr (1, [.ref uq1, .int res.2.2.1])), (uq1, .inl (cI, 10, .inl res.2.1)), (hq, .inr (2, [.ref hq1, .ref hq2, .int res.2.2.2.2])), (hq1, .inl (cI, 10, .inl res.2.2.2.1)), (hq2, .inl (cI, 10, .inl h_lastDay)), (mq, .inr (3, [.ref mq1, .ref mq2, .ref mq3, .ref mq4, .ref mq5, .int m_pieceCount, .int m_orderCount, .int m_pairs, .int m_worthSum, .int m_upToDate])), (mq1, .inl (cI, 100, .inl m_gains)), (mq2, .inl (cI, 11264, .inl m_best)), (mq3, .inl (cI, 10, .inl m_chosen)), (mq4, .inl (cI, 10, .inl m_pieceDuals)), (mq5, .inl (cI, 10, .inl m_orderDuals))]) (va_A [(sq, .inr (4, [.ref pq, .ref oq, .ref sq3, .ref sq4, .ref uq, .ref hq, .ref mq, .int s_today, .int s_cutOff, .int s_agingOff, .int s_saleAge])), (pq, .inr (0, [.ref pq1, .ref pq2, .ref pq3, .ref pq4, .int p_count])), (pq1, .inl (cI, 10, .inl p_thicks)), (pq2, .inl (cI, 10, .inl p_wides)), (pq3, .inl (cI, 10, .inl p_lengths)), (pq4, .inl (cI, 10, .inl p_grades)), (oq, .inr (0, [.ref oq1, .ref oq2, .ref oq3, .ref oq4, .int o_count])), (oq1, .inl (cI, 10, .inl o_thicks)), (oq2, .inl (cI, 10, .inl o_wides)), (oq3, .inl (cI, 10, .inl o_lengths)), (oq4, .inl (cI, 10, .inl o_grades)), (sq3, .inl (cI, 10, .inl s_cameOn)), (sq4, .inl (cI, 100, .inl s_told)), (uq, .inr (1, [.ref uq1, .int u_usedOrders])), (uq1, .inl (cI, 10, .inl u_ordersOfPiece)), (hq, .inr (2, [.ref hq1, .ref hq2, .int h_heldOrders])), (hq1, .inl (cI, 10, .inl h_orderOfPiece)), (hq2, .inl (cI, 10, .inl h_lastDay)), (mq, .inr (3, [.ref mq1, .ref mq2, .ref mq3, .ref mq4, .ref mq5, .int m_pieceCount, .int m_orderCount, .int m_pairs, .int m_worthSum, .int m_upToDate])), (mq1, .inl (cI, 100, .inl m_gains)), (mq2, .inl (cI, 11264, .inl m_best)), (mq3, .inl (cI, 10, .inl m_chosen)), (mq4, .inl (cI, 10, .inl m_pieceDuals)), (mq5, .inl (cI, 10, .inl m_orderDuals))] sz)) 0 0 (va_A [(sq, .inr (4, [.ref pq, .ref oq, .ref sq3, .ref sq4, .ref uq, .ref hq, .ref mq, .int s_today, .int s_cutOff, .int s_agingOff, .int s_saleAge])), (pq, .inr (0, [.ref pq1, .ref pq2, .ref pq3, .ref pq4, .int p_count])), (pq1, .inl (cI, 10, .inl p_thicks)), (pq2, .inl (cI, 10, .inl p_wides)), (pq3, .inl (cI, 10, .inl p_lengths)), (pq4, .inl (cI, 10, .inl p_grades)), (oq, .inr (0, [.ref oq1, .ref oq2, .ref oq3, .ref oq4, .int o_count])), (oq1, .inl (cI, 10, .inl o_thicks)), (oq2, .inl (cI, 10, .inl o_wides)), (oq3, .inl (cI, 10, .inl o_lengths)), (oq4, .inl (cI, 10, .inl o_grades)), (sq3, .inl (cI, 10, .inl s_cameOn)), (sq4, .inl (cI, 100, .inl s_told)), (uq, .inr (1, [.ref uq1, .int u_usedOrders])), (uq1, .inl (cI, 10, .inl u_ordersOfPiece)), (hq, .inr (2, [.ref hq1, .ref hq2, .int h_heldOrders])), (hq1, .inl (cI, 10, .inl h_orderOfPiece)), (hq2, .inl (cI, 10, .inl h_lastDay)), (mq, .inr (3, [.ref mq1, .ref mq2, .ref mq3, .ref mq4, .ref mq5, .int m_pieceCount, .int m_orderCount, .int m_pairs, .int m_worthSum, .int m_upToDate])), (mq1, .inl (cI, 100, .inl m_gains)), (mq2, .inl (cI, 11264, .inl m_best)), (mq3, .inl (cI, 10, .inl m_chosen)), (mq4, .inl (cI, 10, .inl m_pieceDuals)), (mq5, .inl (cI, 10, .inl m_orderDuals))] sz) := by
  unfold m_S_several at hm
  refine Met.ofW (cc := b_S_several) (maxL := 3) (ret := (some .int)) (by decide) rfl ?_
  intro p e s m args below meth c s₁ B hml hv
  obtain ⟨rfl, hsz, hP, hK, hD0, hN⟩ := hv
  have hx := B.exec
  have hb := B.bytes
  have hr := B.returns
  have hts := atoms_spec (ws := w_S_several) B.pre
  have hown : s.vm.findClass R_S = some m.cls := findClass_of_methodNamed B.named
  have hlocks := B.notSynchronized
  subst hsz
  have hD := hD0.self (sz := s.heap.size)
  generalize hAe : va_A [(sq, .inr (4, [.ref pq, .ref oq, .ref sq3, .ref sq4, .ref uq, .ref hq, .ref mq, .int s_today, .int s_cutOff, .int s_agingOff, .int s_saleAge])), (pq, .inr (0, [.ref pq1, .ref pq2, .ref pq3, .ref pq4, .int p_count])), (pq1, .inl (cI, 10, .inl p_thicks)), (pq2, .inl (cI, 10, .inl p_wides)), (pq3, .inl (cI, 10, .inl p_lengths)), (pq4, .inl (cI, 10, .inl p_grades)), (oq, .inr (0, [.ref oq1, .ref oq2, .ref oq3, .ref oq4, .int o_count])), (oq1, .inl (cI, 10, .inl o_thicks)), (oq2, .inl (cI, 10, .inl o_wides)), (oq3, .inl (cI, 10, .inl o_lengths)), (oq4, .inl (cI, 10, .inl o_grades)), (sq3, .inl (cI, 10, .inl s_cameOn)), (sq4, .inl (cI, 100, .inl s_told)), (uq, .inr (1, [.ref uq1, .int u_usedOrders])), (uq1, .inl (cI, 10, .inl u_ordersOfPiece)), (hq, .inr (2, [.ref hq1, .ref hq2, .int h_heldOrders])), (hq1, .inl (cI, 10, .inl h_orderOfPiece)), (hq2, .inl (cI, 10, .inl h_lastDay)), (mq, .inr (3, [.ref mq1, .ref mq2, .ref mq3, .ref mq4, .ref mq5, .int m_pieceCount, .int m_orderCount, .int m_pairs, .int m_worthSum, .int m_upToDate])), (mq1, .inl (cI, 100, .inl m_gains)), (mq2, .inl (cI, 11264, .inl m_best)), (mq3, .inl (cI, 10, .inl m_chosen)), (mq4, .inl (cI, 10, .inl m_pieceDuals)), (mq5, .inl (cI, 10, .inl m_orderDuals))] s.heap.size = A at hD ⊢
  have hA : ∀ q : Nat, s.heap.size ≤ q → A q := fun q h => by rw [← hAe]; exact Or.inr h
  have hS : va_S A s.heap s.heap [] := va_S.rf
  have hk0 := hts (.fieldLink R_S 29 "SurplusMatch" "uses" "LSurplusMatch$Uses;") (List.mem_cons_of_mem _ (w0 145 rfl))
  have hk1 : ∀ w ∈ w_S, w ∈ w_S_several := fun w h => List.mem_cons_of_mem _ (i_S w h)
  have hk2 := hts (.fieldLink R_S 36 "SurplusMatch" "holds" "LSurplusMatch$Holds;") (List.mem_cons_of_mem _ (w0 146 rfl))
  have hl := lv_entry ([.ref sq, .int x1]) (n := 3) (Nat.le_of_ble_eq_true rfl)
  rw [lg_entry_eq]
  generalize (lg_sl ([.ref sq, .int x1]) ++ List.replicate (3 - (lg_sl ([.ref sq, .int x1])).length) Slot.unset).toArray = ls at hl ⊢
  have hl : lv_has ls 3 [(0, .ref sq), (1, .int x1)] := hl
  refine lv_aload_n hx hb d_S_several_0 rfl (lv_at hl 0 rfl) ?_
  refine lv_iload_n hx hb d_S_several_1 rfl (lv_at hl 1 rfl) ?_
  obtain ⟨z9, hc, hm⟩ := bd hm
  rcases z9 with k9 | ⟨⟩
  · dsimp only [tk] at hm
    cases hm
  · dsimp only [tk] at hm
    refine va_csv (W.runV (As := [.int x1]) (rest := []) ⟨hx, hb, hml, hown, hts⟩ (c_S_refuseUnknownPiece l dC dI cI sq pq pq1 pq2 pq3 pq4 oq oq1 oq2 oq3 oq4 sq3 sq4 uq uq1 hq hq1 hq2 mq mq1 mq2 mq3 mq4 mq5 p_thicks p_wides p_lengths p_grades p_count o_thicks o_wides o_lengths o_grades o_count s_cameOn s_told u_ordersOfPiece u_usedOrders h_orderOfPiece h_lastDay h_heldOrders m_gains m_best m_chosen m_pieceDuals m_orderDuals m_pieceCount m_orderCount m_pairs m_worthSum m_upToDate s_today s_cutOff s_agingOff s_saleAge x1 N () hc) (cwV 1 hts (gV (w0 406 rfl) (w0 407 rfl) (w0 12 rfl) (w0 28 rfl) (w0 408 rfl)) rfl rfl rfl q_S_refuseUnknownPiece ⟨Nat.le_of_ble_eq_true rfl, Nat.le_of_ble_eq_true rfl⟩) (ro_preV [0, 1, 2, 3, 4, 5, 6, 7, 8, 9, 10, 11, 12, 13, 14, 15, 16, 17, 18, 19, 20, 21, 22, 23] rfl hK hP hN 4 0 (R_S, F_S, 11) rfl rfl) rfl rfl hl.1 rfl (lv_room (Nat.le_of_ble_eq_true rfl)) d_S_several_2 ⟨Nat.le_of_ble_eq_true rfl, Nat.le_of_ble_eq_true rfl⟩) (fun _ => ?_)
    refine lv_aload_n hx hb d_S_several_5 rfl (lv_at hl 0 rfl) ?_
    refine va_get (D := (dC, dI)) (ci := 4) (v := .ref uq) (C := R_S) (T := F_S) (N := 11) hx hb hts hk1 hown hK hP 0 rfl rfl 4 (by decide) hk0 (fun _ h9 => h9) rfl d_S_several_6 ?_
    refine lv_iload_n hx hb d_S_several_9 rfl (lv_at hl 1 rfl) ?_
    obtain ⟨r2, hc, hm⟩ := bd hm
    try dsimp only at hm
    refine vp_callSi (W.runV (As := [.int x1]) (rest := []) ⟨hx, hb, hml, hown, hts⟩ (c_U_isPieceUsed l dC dI cI uq uq1 u_ordersOfPiece u_usedOrders x1 N r2 hc) (cwV 1 hts (gV (w0 193 rfl) (w0 194 rfl) (w0 195 rfl) (w0 30 rfl) (w0 196 rfl)) rfl rfl rfl q_U_isPieceUsed ⟨Nat.le_of_ble_eq_true rfl, Nat.le_of_ble_eq_true rfl⟩) (ro_preV [13, 14] rfl hK hP hN 1 0 (R_U, F_U, 2) rfl rfl) rfl rfl hl.1 rfl (lv_room (Nat.le_of_ble_eq_true rfl)) d_S_several_10 ⟨Nat.le_of_ble_eq_true rfl, Nat.le_of_ble_eq_true rfl⟩) (fun r9 hr9 => ?_)
    subst hr9
    refine lv_if_ne (tgt := 27) hx hb d_S_several_13 (by decide) (fun c9 => ?_) (fun c9 => ?_)
    · replace hm := if_f c9 hm
      cases hm
    · replace hm := if_t c9 hm
      refine lv_aload_n hx hb d_S_several_16 rfl (lv_at hl 0 rfl) ?_
      refine va_get (D := (dC, dI)) (ci := 4) (v := .ref hq) (C := R_S) (T := F_S) (N := 11) hx hb hts hk1 hown hK hP 0 rfl rfl 5 (by decide) hk2 (fun _ h9 => h9) rfl d_S_several_17 ?_
      refine lv_iload_n hx hb d_S_several_20 rfl (lv_at hl 1 rfl) ?_
      obtain ⟨r3, hc, hm⟩ := bd hm
      try dsimp only at hm
      refine vp_callSi (W.runV (As := [.int x1]) (rest := []) ⟨hx, hb, hml, hown, hts⟩ (c_H_isPieceHeld l dC dI cI hq hq1 hq2 h_orderOfPiece h_lastDay h_heldOrders x1 N r3 hc) (cwV 1 hts (gV (w0 493 rfl) (w0 206 rfl) (w0 207 rfl) (w0 31 rfl) (w0 208 rfl)) rfl rfl rfl q_H_isPieceHeld ⟨Nat.le_of_ble_eq_true rfl, Nat.le_of_ble_eq_true rfl⟩) (ro_preV [15, 16, 17] rfl hK hP hN 2 0 (R_H, F_H, 3) rfl rfl) rfl rfl hl.1 rfl (lv_room (Nat.le_of_ble_eq_true rfl)) d_S_several_21 ⟨Nat.le_of_ble_eq_true rfl, Nat.le_of_ble_eq_true rfl⟩) (fun r9 hr9 => ?_)
      subst hr9
      refine lv_if_eq (tgt := 37) hx hb d_S_several_24 (by decide) (fun c9 => ?_) (fun c9 => ?_)
      · replace hm := if_t c9 hm
        refine lv_aload_n hx hb d_S_several_37 rfl (lv_at hl 0 rfl) ?_
        refine lv_iload_n hx hb d_S_several_38 rfl (lv_at hl 1 rfl) ?_
        obtain ⟨r4, hc, hm⟩ := bd hm
        try dsimp only at hm
        refine vp_callSi (W.runV (As := [.int x1]) (rest := []) ⟨hx, hb, hml, hown, hts⟩ (c_S_bestSet l dC dI cI sq pq pq1 pq2 pq3 pq4 oq oq1 oq2 oq3 oq4 sq3 sq4 uq uq1 hq hq1 hq2 mq mq1 mq2 mq3 mq4 mq5 p_thicks p_wides p_lengths p_grades p_count o_thicks o_wides o_lengths o_grades o_count s_cameOn s_told u_ordersOfPiece u_usedOrders h_orderOfPiece h_lastDay h_heldOrders m_gains m_best m_chosen m_pieceDuals m_orderDuals m_pieceCount m_orderCount m_pairs m_worthSum m_upToDate s_today s_cutOff s_agingOff s_saleAge x1 N r4 hc) (cwV 1 hts (gV (w0 494 rfl) (w0 495 rfl) (w0 14 rfl) (w0 28 rfl) (w0 496 rfl)) rfl rfl rfl q_S_bestSet ⟨Nat.le_of_ble_eq_true rfl, Nat.le_of_ble_eq_true rfl⟩) (ro_preV [0, 1, 2, 3, 4, 5, 6, 7, 8, 9, 10, 11, 12, 13, 14, 15, 16, 17, 18, 19, 20, 21, 22, 23] rfl hK hP hN 4 0 (R_S, F_S, 11) rfl rfl) rfl rfl hl.1 rfl (lv_room (Nat.le_of_ble_eq_true rfl)) d_S_several_39 ⟨Nat.le_of_ble_eq_true rfl, Nat.le_of_ble_eq_true rfl⟩) (fun r9 hr9 => ?_)
        subst hr9
        refine lv_istore_n (lv' := [(2, .int r4), (0, .ref sq), (1, .int x1)]) hx hb d_S_several_42 rfl hl (by decide) rfl (fun ls hl => ?_)
        refine lv_iload_n hx hb d_S_several_43 rfl (lv_at hl 0 rfl) ?_
        refine lv_if_eq (tgt := 53) hx hb d_S_several_44 (by decide) (fun c9 => ?_) (fun c9 => ?_)
        · replace hm := if_t c9 hm
          refine lv_iload_n hx hb d_S_several_53 rfl (lv_at hl 0 rfl) ?_
          obtain ⟨r5, hc, hm⟩ := bd hm
          try dsimp only at hm
          refine vp_callSi (W.runS (As := [.int r4]) (rest := []) ⟨hx, hb, hml, hown, hts⟩ (c_J_bitCount l dC dI cI r4 N r5 hc) (va_cwS 1 hts (gT (w0 500 rfl) (w0 501 rfl) (w0 43 rfl) (w0 502 rfl)) rfl rfl rfl q_J_bitCount.2 ⟨Nat.le_of_ble_eq_true rfl, Nat.le_of_ble_eq_true rfl⟩) ro_pre0 rfl rfl hl.1 rfl (lv_room (Nat.le_of_ble_eq_true rfl)) d_S_several_54 ⟨Nat.le_of_ble_eq_true rfl, Nat.le_of_ble_eq_true rfl⟩) (fun r9 hr9 => ?_)
          subst hr9
          cases hm
          refine W.widen (k := 0) (n := 0) (Nat.le_of_ble_eq_true rfl) (Nat.le_of_ble_eq_true rfl) ?_
          exact W.iret hx hb hr (fun t ht hW => ⟨⟨_, (), rfl, rfl, by rw [ht]; exact hP, va_K.moved hW.alike hK, hD⟩, hS.F ht⟩) hS.2.2 d_S_several_57
        · replace hm := if_f c9 hm
          refine lv_aload_n hx hb d_S_several_47 rfl (lv_at hl 1 rfl) ?_
          refine lv_iload_n hx hb d_S_several_48 rfl (lv_at hl 2 rfl) ?_
          refine lv_iload_n hx hb d_S_several_49 rfl (lv_at hl 0 rfl) ?_
          obtain ⟨⟨u8, u9, u10, u11⟩, hc, hm⟩ := bd hm
          try dsimp only at hm
          have hPc := hP.sub (ws' := [(sq, .inr (4, [.ref pq, .ref oq, .ref sq3, .ref sq4, .ref uq, .ref hq, .ref mq, .int s_today, .int s_cutOff, .int s_agingOff, .int s_saleAge])), (pq, .inr (0, [.ref pq1, .ref pq2, .ref pq3, .ref pq4, .int p_count])), (pq1, .inl (cI, 10, .inl p_thicks)), (pq2, .inl (cI, 10, .inl p_wides)), (pq3, .inl (cI, 10, .inl p_lengths)), (pq4, .inl (cI, 10, .inl p_grades)), (oq, .inr (0, [.ref oq1, .ref oq2, .ref oq3, .ref oq4, .int o_count])), (oq1, .inl (cI, 10, .inl o_thicks)), (oq2, .inl (cI, 10, .inl o_wides)), (oq3, .inl (cI, 10, .inl o_lengths)), (oq4, .inl (cI, 10, .inl o_grades)), (sq3, .inl (cI, 10, .inl s_cameOn)), (sq4, .inl (cI, 100, .inl s_told)), (uq, .inr (1, [.ref uq1, .int u_usedOrders])), (uq1, .inl (cI, 10, .inl u_ordersOfPiece)), (hq, .inr (2, [.ref hq1, .ref hq2, .int h_heldOrders])), (hq1, .inl (cI, 10, .inl h_orderOfPiece)), (hq2, .inl (cI, 10, .inl h_lastDay)), (mq, .inr (3, [.ref mq1, .ref mq2, .ref mq3, .ref mq4, .ref mq5, .int m_pieceCount, .int m_orderCount, .int m_pairs, .int m_worthSum, .int m_upToDate])), (mq1, .inl (cI, 100, .inl m_gains)), (mq2, .inl (cI, 11264, .inl m_best)), (mq3, .inl (cI, 10, .inl m_chosen)), (mq4, .inl (cI, 10, .inl m_pieceDuals)), (mq5, .inl (cI, 10, .inl m_orderDuals))]) [0, 1, 2, 3, 4, 5, 6, 7, 8, 9, 10, 11, 12, 13, 14, 15, 16, 17, 18, 19, 20, 21, 22, 23] rfl
          have hDc := hD.sub (ws' := [(sq, .inr (4, [.ref pq, .ref oq, .ref sq3, .ref sq4, .ref uq, .ref hq, .ref mq, .int s_today, .int s_cutOff, .int s_agingOff, .int s_saleAge])), (pq, .inr (0, [.ref pq1, .ref pq2, .ref pq3, .ref pq4, .int p_count])), (pq1, .inl (cI, 10, .inl p_thicks)), (pq2, .inl (cI, 10, .inl p_wides)), (pq3, .inl (cI, 10, .inl p_lengths)), (pq4, .inl (cI, 10, .inl p_grades)), (oq, .inr (0, [.ref oq1, .ref oq2, .ref oq3, .ref oq4, .int o_count])), (oq1, .inl (cI, 10, .inl o_thicks)), (oq2, .inl (cI, 10, .inl o_wides)), (oq3, .inl (cI, 10, .inl o_lengths)), (oq4, .inl (cI, 10, .inl o_grades)), (sq3, .inl (cI, 10, .inl s_cameOn)), (sq4, .inl (cI, 100, .inl s_told)), (uq, .inr (1, [.ref uq1, .int u_usedOrders])), (uq1, .inl (cI, 10, .inl u_ordersOfPiece)), (hq, .inr (2, [.ref hq1, .ref hq2, .int h_heldOrders])), (hq1, .inl (cI, 10, .inl h_orderOfPiece)), (hq2, .inl (cI, 10, .inl h_lastDay)), (mq, .inr (3, [.ref mq1, .ref mq2, .ref mq3, .ref mq4, .ref mq5, .int m_pieceCount, .int m_orderCount, .int m_pairs, .int m_worthSum, .int m_upToDate])), (mq1, .inl (cI, 100, .inl m_gains)), (mq2, .inl (cI, 11264, .inl m_best)), (mq3, .inl (cI, 10, .inl m_chosen)), (mq4, .inl (cI, 10, .inl m_pieceDuals)), (mq5, .inl (cI, 10, .inl m_orderDuals))]) [0, 1, 2, 3, 4, 5, 6, 7, 8, 9, 10, 11, 12, 13, 14, 15, 16, 17, 18, 19, 20, 21, 22, 23] (by decide) rfl
          have hFc := va_free (wc := [(sq, .inr (4, [.ref pq, .ref oq, .ref sq3, .ref sq4, .ref uq, .ref hq, .ref mq, .int s_today, .int s_cutOff, .int s_agingOff, .int s_saleAge])), (pq, .inr (0, [.ref pq1, .ref pq2, .ref pq3, .ref pq4, .int p_count])), (pq1, .inl (cI, 10, .inl p_thicks)), (pq2, .inl (cI, 10, .inl p_wides)), (pq3, .inl (cI, 10, .inl p_lengths)), (pq4, .inl (cI, 10, .inl p_grades)), (oq, .inr (0, [.ref oq1, .ref oq2, .ref oq3, .ref oq4, .int o_count])), (oq1, .inl (cI, 10, .inl o_thicks)), (oq2, .inl (cI, 10, .inl o_wides)), (oq3, .inl (cI, 10, .inl o_lengths)), (oq4, .inl (cI, 10, .inl o_grades)), (sq3, .inl (cI, 10, .inl s_cameOn)), (sq4, .inl (cI, 100, .inl s_told)), (uq, .inr (1, [.ref uq1, .int u_usedOrders])), (uq1, .inl (cI, 10, .inl u_ordersOfPiece)), (hq, .inr (2, [.ref hq1, .ref hq2, .int h_heldOrders])), (hq1, .inl (cI, 10, .inl h_orderOfPiece)), (hq2, .inl (cI, 10, .inl h_lastDay)), (mq, .inr (3, [.ref mq1, .ref mq2, .ref mq3, .ref mq4, .ref mq5, .int m_pieceCount, .int m_orderCount, .int m_pairs, .int m_worthSum, .int m_upToDate])), (mq1, .inl (cI, 100, .inl m_gains)), (mq2, .inl (cI, 11264, .inl m_best)), (mq3, .inl (cI, 10, .inl m_chosen)), (mq4, .inl (cI, 10, .inl m_pieceDuals)), (mq5, .inl (cI, 10, .inl m_orderDuals))]) hD hS hA [0, 1, 2, 3, 4, 5, 6, 7, 8, 9, 10, 11, 12, 13, 14, 15, 16, 17, 18, 19, 20, 21, 22, 23] rfl
          refine va_callv (va_runV (As := [.int x1, .int r4]) (rest := []) ⟨hx, hb, hml, hown, hts⟩ (c_S_cutPiece l dC dI cI sq pq pq1 pq2 pq3 pq4 oq oq1 oq2 oq3 oq4 sq3 sq4 uq uq1 hq hq1 hq2 mq mq1 mq2 mq3 mq4 mq5 s.heap.size p_thicks p_wides p_lengths p_grades p_count o_thicks o_wides o_lengths o_grades o_count s_cameOn s_told u_ordersOfPiece u_usedOrders h_orderOfPiece h_lastDay h_heldOrders m_gains m_best m_chosen m_pieceDuals m_orderDuals m_pieceCount m_orderCount m_pairs m_worthSum m_upToDate s_today s_cutOff s_agingOff s_saleAge x1 r4 N (u8, u9, u10, u11) hc) (cwV 2 hts (gV (w0 266 rfl) (w0 267 rfl) (w0 10 rfl) (w0 28 rfl) (w0 268 rfl)) rfl rfl rfl q_S_cutPiece ⟨Nat.le_of_ble_eq_true rfl, Nat.le_of_ble_eq_true rfl⟩) (wr_preV hK hPc hDc hN 4 0 (R_S, F_S, 11) rfl rfl) rfl rfl hl.1 rfl (lv_room (Nat.le_of_ble_eq_true rfl)) d_S_several_50 ⟨Nat.le_of_ble_eq_true rfl, Nat.le_of_ble_eq_true rfl⟩) hS (fun q _ h => hFc q h) hFc (fun u t H1 locs ht hvm hw hB hz1 hk1 hS => ?_)
          obtain ⟨hP1, hK1, hD1⟩ := hB
          rw [ht] at hP1
          obtain ⟨hP, hD⟩ := va_join (wr := []) (w1 := [(sq, .inr (4, [.ref pq, .ref oq, .ref sq3, .ref sq4, .ref uq, .ref hq, .ref mq, .int s_today, .int s_cutOff, .int s_agingOff, .int s_saleAge])), (pq, .inr (0, [.ref pq1, .ref pq2, .ref pq3, .ref pq4, .int p_count])), (pq1, .inl (cI, 10, .inl p_thicks)), (pq2, .inl (cI, 10, .inl p_wides)), (pq3, .inl (cI, 10, .inl p_lengths)), (pq4, .inl (cI, 10, .inl p_grades)), (oq, .inr (0, [.ref oq1, .ref oq2, .ref oq3, .ref oq4, .int o_count])), (oq1, .inl (cI, 10, .inl o_thicks)), (oq2, .inl (cI, 10, .inl o_wides)), (oq3, .inl (cI, 10, .inl o_lengths)), (oq4, .inl (cI, 10, .inl o_grades)), (sq3, .inl (cI, 10, .inl s_cameOn)), (sq4, .inl (cI, 100, .inl s_told)), (uq, .inr (1, [.ref uq1, .int u9])), (uq1, .inl (cI, 10, .inl u8)), (hq, .inr (2, [.ref hq1, .ref hq2, .int u11])), (hq1, .inl (cI, 10, .inl u10)), (hq2, .inl (cI, 10, .inl h_lastDay)), (mq, .inr (3, [.ref mq1, .ref mq2, .ref mq3, .ref mq4, .ref mq5, .int m_pieceCount, .int m_orderCount, .int m_pairs, .int m_worthSum, .int m_upToDate])), (mq1, .inl (cI, 100, .inl m_gains)), (mq2, .inl (cI, 11264, .inl m_best)), (mq3, .inl (cI, 10, .inl m_chosen)), (mq4, .inl (cI, 10, .inl m_pieceDuals)), (mq5, .inl (cI, 10, .inl m_orderDuals))]) hP hD [0, 1, 2, 3, 4, 5, 6, 7, 8, 9, 10, 11, 12, 13, 14, 15, 16, 17, 18, 19, 20, 21, 22, 23] [] rfl rfl (by decide) (by decide) hk1 hFc hP1 hD1
          generalize H1 = H at hP hS ⊢
          have hP : va_P (dC, dI) classes [(sq, .inr (4, [.ref pq, .ref oq, .ref sq3, .ref sq4, .ref uq, .ref hq, .ref mq, .int s_today, .int s_cutOff, .int s_agingOff, .int s_saleAge])), (pq, .inr (0, [.ref pq1, .ref pq2, .ref pq3, .ref pq4, .int p_count])), (pq1, .inl (cI, 10, .inl p_thicks)), (pq2, .inl (cI, 10, .inl p_wides)), (pq3, .inl (cI, 10, .inl p_lengths)), (pq4, .inl (cI, 10, .inl p_grades)), (oq, .inr (0, [.ref oq1, .ref oq2, .ref oq3, .ref oq4, .int o_count])), (oq1, .inl (cI, 10, .inl o_thicks)), (oq2, .inl (cI, 10, .inl o_wides)), (oq3, .inl (cI, 10, .inl o_lengths)), (oq4, .inl (cI, 10, .inl o_grades)), (sq3, .inl (cI, 10, .inl s_cameOn)), (sq4, .inl (cI, 100, .inl s_told)), (uq, .inr (1, [.ref uq1, .int u9])), (uq1, .inl (cI, 10, .inl u8)), (hq, .inr (2, [.ref hq1, .ref hq2, .int u11])), (hq1, .inl (cI, 10, .inl u10)), (hq2, .inl (cI, 10, .inl h_lastDay)), (mq, .inr (3, [.ref mq1, .ref mq2, .ref mq3, .ref mq4, .ref mq5, .int m_pieceCount, .int m_orderCount, .int m_pairs, .int m_worthSum, .int m_upToDate])), (mq1, .inl (cI, 100, .inl m_gains)), (mq2, .inl (cI, 11264, .inl m_best)), (mq3, .inl (cI, 10, .inl m_chosen)), (mq4, .inl (cI, 10, .inl m_pieceDuals)), (mq5, .inl (cI, 10, .inl m_orderDuals))] H := hP
          have hD : va_D A [(sq, .inr (4, [.ref pq, .ref oq, .ref sq3, .ref sq4, .ref uq, .ref hq, .ref mq, .int s_today, .int s_cutOff, .int s_agingOff, .int s_saleAge])), (pq, .inr (0, [.ref pq1, .ref pq2, .ref pq3, .ref pq4, .int p_count])), (pq1, .inl (cI, 10, .inl p_thicks)), (pq2, .inl (cI, 10, .inl p_wides)), (pq3, .inl (cI, 10, .inl p_lengths)), (pq4, .inl (cI, 10, .inl p_grades)), (oq, .inr (0, [.ref oq1, .ref oq2, .ref oq3, .ref oq4, .int o_count])), (oq1, .inl (cI, 10, .inl o_thicks)), (oq2, .inl (cI, 10, .inl o_wides)), (oq3, .inl (cI, 10, .inl o_lengths)), (oq4, .inl (cI, 10, .inl o_grades)), (sq3, .inl (cI, 10, .inl s_cameOn)), (sq4, .inl (cI, 100, .inl s_told)), (uq, .inr (1, [.ref uq1, .int u9])), (uq1, .inl (cI, 10, .inl u8)), (hq, .inr (2, [.ref hq1, .ref hq2, .int u11])), (hq1, .inl (cI, 10, .inl u10)), (hq2, .inl (cI, 10, .inl h_lastDay)), (mq, .inr (3, [.ref mq1, .ref mq2, .ref mq3, .ref mq4, .ref mq5, .int m_pieceCount, .int m_orderCount, .int m_pairs, .int m_worthSum, .int m_upToDate])), (mq1, .inl (cI, 100, .inl m_gains)), (mq2, .inl (cI, 11264, .inl m_best)), (mq3, .inl (cI, 10, .inl m_chosen)), (mq4, .inl (cI, 10, .inl m_pieceDuals)), (mq5, .inl (cI, 10, .inl m_orderDuals))] := hD
          clear hP1 hD1 hPc hDc hFc hk1 hz1
          refine lv_iload_n hx hb d_S_several_53 rfl (lv_at hl 0 rfl) ?_
          obtain ⟨r12, hc, hm⟩ := bd hm
          try dsimp only at hm
          refine vp_callSi (W.runS (As := [.int r4]) (rest := []) ⟨hx, hb, hml, hown, hts⟩ (c_J_bitCount l dC dI cI r4 N r12 hc) (va_cwS 1 hts (gT (w0 500 rfl) (w0 501 rfl) (w0 43 rfl) (w0 502 rfl)) rfl rfl rfl q_J_bitCount.2 ⟨Nat.le_of_ble_eq_true rfl, Nat.le_of_ble_eq_true rfl⟩) ro_pre0 rfl rfl hl.1 rfl (lv_room (Nat.le_of_ble_eq_true rfl)) d_S_several_54 ⟨Nat.le_of_ble_eq_true rfl, Nat.le_of_ble_eq_true rfl⟩) (fun r9 hr9 => ?_)
          subst hr9
          cases hm
          refine W.widen (k := 0) (n := 0) (Nat.le_of_ble_eq_true rfl) (Nat.le_of_ble_eq_true rfl) ?_
          exact W.iret hx hb hr (fun t ht hW => ⟨⟨_, (), rfl, rfl, by rw [ht]; exact hP, va_K.moved hW.alike hK, hD⟩, hS.F ht⟩) hS.2.2 d_S_several_57
      · replace hm := if_f c9 hm
        cases hm
set_option maxHeartbeats 4000000 in
set_option maxRecDepth 100000 in
theorem x_S_several (l : Launch) (dC : Nat → ClassId) (dI : Nat → Nat → Nat) (cI : ClassId) (sq pq pq1 pq2 pq3 pq4 oq oq1 oq2 oq3 oq4 sq3 sq4 uq uq1 hq hq1 hq2 mq mq1 mq2 mq3 mq4 mq5 : Nat) (sz : Nat) (p_thicks : Nat → Int32) (p_wides : Nat → Int32) (p_lengths : Nat → Int32) (p_grades : Nat → Int32) (p_count : Int32) (o_thicks : Nat → Int32) (o_wides : Nat → Int32) (o_lengths : Nat → Int32) (o_grades : Nat → Int32) (o_count : Int32) (s_cameOn : Nat → Int32) (s_told : Nat → Int32) (u_ordersOfPiece : Nat → Int32) (u_usedOrders : Int32) (h_orderOfPiece : Nat → Int32) (h_lastDay : Nat → Int32) (h_heldOrders : Int32) (m_gains : Nat → Int32) (m_best : Nat → Int32) (m_chosen : Nat → Int32) (m_pieceDuals : Nat → Int32) (m_orderDuals : Nat → Int32) (m_pieceCount : Int32) (m_orderCount : Int32) (m_pairs : Int32) (m_worthSum : Int32) (m_upToDate : Int32) (s_today : Int32) (s_cutOff : Int32) (s_agingOff : Int32) (s_saleAge : Int32) (x1 : Int32) (N : Nat) (k : Nat) (hst : l.stackTraces = false) (hm : m_S_several N p_thicks p_wides p_lengths p_grades p_count o_thicks o_wides o_lengths o_grades o_count s_cameOn s_told u_ordersOfPiece u_usedOrders h_orderOfPiece h_heldOrders s_today s_cutOff s_agingOff x1 = some (.inl k)) : xt_Met l y_S_several w_S_several ({ frames := 7, cells := 1, slots := 6, locals := 117 } : Room) (va_Pc [.ref sq, .int x1] (fun U => U.heap.size = sz ∧ va_P (dC, dI) classes [(sq, .inr (4, [.ref pq, .ref oq, .ref sq3, .ref sq4, .ref uq, .ref hq, .ref mq, .int s_today, .int s_cutOff, .int s_agingOff, .int s_saleAge])), (pq, .inr (0, [.ref pq1, .ref pq2, .ref pq3, .ref pq4, .int p_count])), (pq1, .inl (cI, 10, .inl p_thicks)), (pq2, .inl (cI, 10, .inl p_wides)), (pq3, .inl (cI, 10, .inl p_lengths)), (pq4, .inl (cI, 10, .inl p_grades)), (oq, .inr (0, [.ref oq1, .ref oq2, .ref oq3, .ref oq4, .int o_count])), (oq1, .inl (cI, 10, .inl o_thicks)), (oq2, .inl (cI, 10, .inl o_wides)), (oq3, .inl (cI, 10, .inl o_lengths)), (oq4, .inl (cI, 10, .inl o_grades)), (sq3, .inl (cI, 10, .inl s_cameOn)), (sq4, .inl (cI, 100, .inl s_told)), (uq, .inr (1, [.ref uq1, .int u_usedOrders])), (uq1, .inl (cI, 10, .inl u_ordersOfPiece)), (hq, .inr (2, [.ref hq1, .ref hq2, .int h_heldOrders])), (hq1, .inl (cI, 10, .inl h_orderOfPiece)), (hq2, .inl (cI, 10, .inl h_lastDay)), (mq, .inr (3, [.ref mq1, .ref mq2, .ref mq3, .ref mq4, .ref mq5, .int m_pieceCount, .int m_orderCount, .int m_pairs, .int m_worthSum, .int m_upToDate])), (mq1, .inl (cI, 100, .inl m_gains)), (mq2, .inl (cI, 11264, .inl m_best)), (mq3, .inl (cI, 10, .inl m_chosen)), (mq4, .inl (cI, 10, .inl m_pieceDuals)), (mq5, .inl (cI, 10, .inl m_orderDuals))] U.heap ∧ va_K (dC, dI) classes [(cI, .int)] U ∧ va_D (fun _ => True) [(sq, .inr (4, [.ref pq, .ref oq, .ref sq3, .ref sq4, .ref uq, .ref hq, .ref mq, .int s_today, .int s_cutOff, .int s_agingOff, .int s_saleAge])), (pq, .inr (0, [.ref pq1, .ref pq2, .ref pq3, .ref pq4, .int p_count])), (pq1, .inl (cI, 10, .inl p_thicks)), (pq2, .inl (cI, 10, .inl p_wides)), (pq3, .inl (cI, 10, .inl p_lengths)), (pq4, .inl (cI, 10, .inl p_grades)), (oq, .inr (0, [.ref oq1, .ref oq2, .ref oq3, .ref oq4, .int o_count])), (oq1, .inl (cI, 10, .inl o_thicks)), (oq2, .inl (cI, 10, .inl o_wides)), (oq3, .inl (cI, 10, .inl o_lengths)), (oq4, .inl (cI, 10, .inl o_grades)), (sq3, .inl (cI, 10, .inl s_cameOn)), (sq4, .inl (cI, 100, .inl s_told)), (uq, .inr (1, [.ref uq1, .int u_usedOrders])), (uq1, .inl (cI, 10, .inl u_ordersOfPiece)), (hq, .inr (2, [.ref hq1, .ref hq2, .int h_heldOrders])), (hq1, .inl (cI, 10, .inl h_orderOfPiece)), (hq2, .inl (cI, 10, .inl h_lastDay)), (mq, .inr (3, [.ref mq1, .ref mq2, .ref mq3, .ref mq4, .ref mq5, .int m_pieceCount, .int m_orderCount, .int m_pairs, .int m_worthSum, .int m_upToDate])), (mq1, .inl (cI, 100, .inl m_gains)), (mq2, .inl (cI, 11264, .inl m_best)), (mq3, .inl (cI, 10, .inl m_chosen)), (mq4, .inl (cI, 10, .inl m_pieceDuals)), (mq5, .inl (cI, 10, .inl m_orderDuals))] ∧ nw U ∧ xE xTx U U.heap)) (xn k) := by
  unfold m_S_several at hm
  refine xt_ofW (cc := b_S_several) (maxL := 3) (ret := (some .int)) (by decide) rfl ?_
  intro p e s m args below meth c s₁ B hml hout hv
  obtain ⟨rfl, hsz, hP, hK, hD0, hN, hE⟩ := hv
  have hx := B.exec
  have hb := B.bytes
  have hr := B.returns
  have hts := atoms_spec (ws := w_S_several) B.pre
  have hown : s.vm.findClass R_S = some m.cls := findClass_of_methodNamed B.named
  have hlocks := B.notSynchronized
  subst hsz
  have hD := hD0.self (sz := s.heap.size)
  generalize hAe : va_A [(sq, .inr (4, [.ref pq, .ref oq, .ref sq3, .ref sq4, .ref uq, .ref hq, .ref mq, .int s_today, .int s_cutOff, .int s_agingOff, .int s_saleAge])), (pq, .inr (0, [.ref pq1, .ref pq2, .ref pq3, .ref pq4, .int p_count])), (pq1, .inl (cI, 10, .inl p_thicks)), (pq2, .inl (cI, 10, .inl p_wides)), (pq3, .inl (cI, 10, .inl p_lengths)), (pq4, .inl (cI, 10, .inl p_grades)), (oq, .inr (0, [.ref oq1, .ref oq2, .ref oq3, .ref oq4, .int o_count])), (oq1, .inl (cI, 10, .inl o_thicks)), (oq2, .inl (cI, 10, .inl o_wides)), (oq3, .inl (cI, 10, .inl o_lengths)), (oq4, .inl (cI, 10, .inl o_grades)), (sq3, .inl (cI, 10, .inl s_cameOn)), (sq4, .inl (cI, 100, .inl s_told)), (uq, .inr (1, [.ref uq1, .int u_usedOrders])), (uq1, .inl (cI, 10, .inl u_ordersOfPiece)), (hq, .inr (2, [.ref hq1, .ref hq2, .int h_heldOrders])), (hq1, .inl (cI, 10, .inl h_orderOfPiece)), (hq2, .inl (cI, 10, .inl h_lastDay)), (mq, .inr (3, [.ref mq1, .ref mq2, .ref mq3, .ref mq4, .ref mq5, .int m_pieceCount, .int m_orderCount, .int m_pairs, .int m_worthSum, .int m_upToDate])), (mq1, .inl (cI, 100, .inl m_gains)), (mq2, .inl (cI, 11264, .inl m_best)), (mq3, .inl (cI, 10, .inl m_chosen)), (mq4, .inl (cI, 10, .inl m_pieceDuals)), (mq5, .inl (cI, 10, .inl m_orderDuals))] s.heap.size = A at hD
  have hA : ∀ q : Nat, s.heap.size ≤ q → A q := fun q h => by rw [← hAe]; exact Or.inr h
  have hS : va_S A s.heap s.heap [] := va_S.rf
  have hk0 := hts (.fieldLink R_S 29 "SurplusMatch" "uses" "LSurplusMatch$Uses;") (List.mem_cons_of_mem _ (w0 145 rfl))
  have hk1 : ∀ w ∈ w_S, w ∈ w_S_several := fun w h => List.mem_cons_of_mem _ (i_S w h)
  have hk2 := hts (.classLink R_S 145 "java/lang/IllegalStateException") (List.mem_cons_of_mem _ (w0 464 rfl))
  have hk3 := hts (.initialized "java/lang/IllegalStateException") (List.mem_cons_of_mem _ (w0 42 rfl))
  have hk4 := hts (.fieldLink R_S 36 "SurplusMatch" "holds" "LSurplusMatch$Holds;") (List.mem_cons_of_mem _ (w0 146 rfl))
  have hl := lv_entry ([.ref sq, .int x1]) (n := 3) (Nat.le_of_ble_eq_true rfl)
  rw [lg_entry_eq]
  generalize (lg_sl ([.ref sq, .int x1]) ++ List.replicate (3 - (lg_sl ([.ref sq, .int x1])).length) Slot.unset).toArray = ls at hl ⊢
  have hl : lv_has ls 3 [(0, .ref sq), (1, .int x1)] := hl
  refine lv_aload_n hx hb d_S_several_0 rfl (lv_at hl 0 rfl) ?_
  refine lv_iload_n hx hb d_S_several_1 rfl (lv_at hl 1 rfl) ?_
  obtain ⟨z9, hc, hm⟩ := bd hm
  rcases z9 with k9 | ⟨⟩
  · dsimp only [tk] at hm
    cases hm
    exact xt_runV (As := [.int x1]) (rest := []) ⟨hx, hb, hml, hown, hts⟩ (x_S_refuseUnknownPiece l dC dI cI sq pq pq1 pq2 pq3 pq4 oq oq1 oq2 oq3 oq4 sq3 sq4 uq uq1 hq hq1 hq2 mq mq1 mq2 mq3 mq4 mq5 p_thicks p_wides p_lengths p_grades p_count o_thicks o_wides o_lengths o_grades o_count s_cameOn s_told u_ordersOfPiece u_usedOrders h_orderOfPiece h_lastDay h_heldOrders m_gains m_best m_chosen m_pieceDuals m_orderDuals m_pieceCount m_orderCount m_pairs m_worthSum m_upToDate s_today s_cutOff s_agingOff s_saleAge x1 N _ hst hc) (cwV 1 hts (gV (w0 406 rfl) (w0 407 rfl) (w0 12 rfl) (w0 28 rfl) (w0 408 rfl)) rfl rfl rfl q_S_refuseUnknownPiece ⟨Nat.le_of_ble_eq_true rfl, Nat.le_of_ble_eq_true rfl⟩) (rx_preV [0, 1, 2, 3, 4, 5, 6, 7, 8, 9, 10, 11, 12, 13, 14, 15, 16, 17, 18, 19, 20, 21, 22, 23] rfl hK hP hN hE 4 0 (R_S, F_S, 11) rfl rfl) rfl rfl hl.1 rfl (lv_room (Nat.le_of_ble_eq_true rfl)) d_S_several_2 ⟨Nat.le_of_ble_eq_true rfl, Nat.le_of_ble_eq_true rfl⟩ (fun q ce H1 hce hcv hcl hz hk => xt_out hout hlocks hce hcv hcl)
  · dsimp only [tk] at hm
    refine va_csv (W.runV (As := [.int x1]) (rest := []) ⟨hx, hb, hml, hown, hts⟩ (c_S_refuseUnknownPiece l dC dI cI sq pq pq1 pq2 pq3 pq4 oq oq1 oq2 oq3 oq4 sq3 sq4 uq uq1 hq hq1 hq2 mq mq1 mq2 mq3 mq4 mq5 p_thicks p_wides p_lengths p_grades p_count o_thicks o_wides o_lengths o_grades o_count s_cameOn s_told u_ordersOfPiece u_usedOrders h_orderOfPiece h_lastDay h_heldOrders m_gains m_best m_chosen m_pieceDuals m_orderDuals m_pieceCount m_orderCount m_pairs m_worthSum m_upToDate s_today s_cutOff s_agingOff s_saleAge x1 N () hc) (cwV 1 hts (gV (w0 406 rfl) (w0 407 rfl) (w0 12 rfl) (w0 28 rfl) (w0 408 rfl)) rfl rfl rfl q_S_refuseUnknownPiece ⟨Nat.le_of_ble_eq_true rfl, Nat.le_of_ble_eq_true rfl⟩) (ro_preV [0, 1, 2, 3, 4, 5, 6, 7, 8, 9, 10, 11, 12, 13, 14, 15, 16, 17, 18, 19, 20, 21, 22, 23] rfl hK hP hN 4 0 (R_S, F_S, 11) rfl rfl) rfl rfl hl.1 rfl (lv_room (Nat.le_of_ble_eq_true rfl)) d_S_several_2 ⟨Nat.le_of_ble_eq_true rfl, Nat.le_of_ble_eq_true rfl⟩) (fun _ => ?_)
    refine lv_aload_n hx hb d_S_several_5 rfl (lv_at hl 0 rfl) ?_
    refine va_get (D := (dC, dI)) (ci := 4) (v := .ref uq) (C := R_S) (T := F_S) (N := 11) hx hb hts hk1 hown hK hP 0 rfl rfl 4 (by decide) hk0 (fun _ h9 => h9) rfl d_S_several_6 ?_
    refine lv_iload_n hx hb d_S_several_9 rfl (lv_at hl 1 rfl) ?_
    obtain ⟨r2, hc, hm⟩ := bd hm
    try dsimp only at hm
    refine vp_callSi (W.runV (As := [.int x1]) (rest := []) ⟨hx, hb, hml, hown, hts⟩ (c_U_isPieceUsed l dC dI cI uq uq1 u_ordersOfPiece u_usedOrders x1 N r2 hc) (cwV 1 hts (gV (w0 193 rfl) (w0 194 rfl) (w0 195 rfl) (w0 30 rfl) (w0 196 rfl)) rfl rfl rfl q_U_isPieceUsed ⟨Nat.le_of_ble_eq_true rfl, Nat.le_of_ble_eq_true rfl⟩) (ro_preV [13, 14] rfl hK hP hN 1 0 (R_U, F_U, 2) rfl rfl) rfl rfl hl.1 rfl (lv_room (Nat.le_of_ble_eq_true rfl)) d_S_several_10 ⟨Nat.le_of_ble_eq_true rfl, Nat.le_of_ble_eq_true rfl⟩) (fun r9 hr9 => ?_)
    subst hr9
    refine lv_if_ne (tgt := 27) hx hb d_S_several_13 (by decide) (fun c9 => ?_) (fun c9 => ?_)
    · replace hm := if_f c9 hm
      cases hm
      obtain ⟨sa, hsa⟩ := hE.2.2.2.2 (166, "the piece is used or reserved") (List.mem_of_getElem? (i := 7) rfl)
      exact xt_throw (cls := "java/lang/IllegalStateException") (names := xnm) hx hb hst hown (by decide +kernel) xnm_fit hk2 hk3 hsa (hat_1 hts hE) (hl.1.trans hml.symm) d_S_several_27 d_S_several_30 d_S_several_31 d_S_several_33 d_S_several_36 hout (Nat.le_of_ble_eq_true rfl) (Nat.le_of_ble_eq_true rfl) (Nat.le_of_ble_eq_true rfl) (Nat.le_of_ble_eq_true rfl) hlocks
    · replace hm := if_t c9 hm
      refine lv_aload_n hx hb d_S_several_16 rfl (lv_at hl 0 rfl) ?_
      refine va_get (D := (dC, dI)) (ci := 4) (v := .ref hq) (C := R_S) (T := F_S) (N := 11) hx hb hts hk1 hown hK hP 0 rfl rfl 5 (by decide) hk4 (fun _ h9 => h9) rfl d_S_several_17 ?_
      refine lv_iload_n hx hb d_S_several_20 rfl (lv_at hl 1 rfl) ?_
      obtain ⟨r3, hc, hm⟩ := bd hm
      try dsimp only at hm
      refine vp_callSi (W.runV (As := [.int x1]) (rest := []) ⟨hx, hb, hml, hown, hts⟩ (c_H_isPieceHeld l dC dI cI hq hq1 hq2 h_orderOfPiece h_lastDay h_heldOrders x1 N r3 hc) (cwV 1 hts (gV (w0 493 rfl) (w0 206 rfl) (w0 207 rfl) (w0 31 rfl) (w0 208 rfl)) rfl rfl rfl q_H_isPieceHeld ⟨Nat.le_of_ble_eq_true rfl, Nat.le_of_ble_eq_true rfl⟩) (ro_preV [15, 16, 17] rfl hK hP hN 2 0 (R_H, F_H, 3) rfl rfl) rfl rfl hl.1 rfl (lv_room (Nat.le_of_ble_eq_true rfl)) d_S_several_21 ⟨Nat.le_of_ble_eq_true rfl, Nat.le_of_ble_eq_true rfl⟩) (fun r9 hr9 => ?_)
      subst hr9
      refine lv_if_eq (tgt := 37) hx hb d_S_several_24 (by decide) (fun c9 => ?_) (fun c9 => ?_)
      · replace hm := if_t c9 hm
        refine lv_aload_n hx hb d_S_several_37 rfl (lv_at hl 0 rfl) ?_
        refine lv_iload_n hx hb d_S_several_38 rfl (lv_at hl 1 rfl) ?_
        obtain ⟨r4, hc, hm⟩ := bd hm
        try dsimp only at hm
        refine vp_callSi (W.runV (As := [.int x1]) (rest := []) ⟨hx, hb, hml, hown, hts⟩ (c_S_bestSet l dC dI cI sq pq pq1 pq2 pq3 pq4 oq oq1 oq2 oq3 oq4 sq3 sq4 uq uq1 hq hq1 hq2 mq mq1 mq2 mq3 mq4 mq5 p_thicks p_wides p_lengths p_grades p_count o_thicks o_wides o_lengths o_grades o_count s_cameOn s_told u_ordersOfPiece u_usedOrders h_orderOfPiece h_lastDay h_heldOrders m_gains m_best m_chosen m_pieceDuals m_orderDuals m_pieceCount m_orderCount m_pairs m_worthSum m_upToDate s_today s_cutOff s_agingOff s_saleAge x1 N r4 hc) (cwV 1 hts (gV (w0 494 rfl) (w0 495 rfl) (w0 14 rfl) (w0 28 rfl) (w0 496 rfl)) rfl rfl rfl q_S_bestSet ⟨Nat.le_of_ble_eq_true rfl, Nat.le_of_ble_eq_true rfl⟩) (ro_preV [0, 1, 2, 3, 4, 5, 6, 7, 8, 9, 10, 11, 12, 13, 14, 15, 16, 17, 18, 19, 20, 21, 22, 23] rfl hK hP hN 4 0 (R_S, F_S, 11) rfl rfl) rfl rfl hl.1 rfl (lv_room (Nat.le_of_ble_eq_true rfl)) d_S_several_39 ⟨Nat.le_of_ble_eq_true rfl, Nat.le_of_ble_eq_true rfl⟩) (fun r9 hr9 => ?_)
        subst hr9
        refine lv_istore_n (lv' := [(2, .int r4), (0, .ref sq), (1, .int x1)]) hx hb d_S_several_42 rfl hl (by decide) rfl (fun ls hl => ?_)
        refine lv_iload_n hx hb d_S_several_43 rfl (lv_at hl 0 rfl) ?_
        refine lv_if_eq (tgt := 53) hx hb d_S_several_44 (by decide) (fun c9 => ?_) (fun c9 => ?_)
        · replace hm := if_t c9 hm
          refine lv_iload_n hx hb d_S_several_53 rfl (lv_at hl 0 rfl) ?_
          obtain ⟨r5, hc, hm⟩ := bd hm
          try dsimp only at hm
          refine vp_callSi (W.runS (As := [.int r4]) (rest := []) ⟨hx, hb, hml, hown, hts⟩ (c_J_bitCount l dC dI cI r4 N r5 hc) (va_cwS 1 hts (gT (w0 500 rfl) (w0 501 rfl) (w0 43 rfl) (w0 502 rfl)) rfl rfl rfl q_J_bitCount.2 ⟨Nat.le_of_ble_eq_true rfl, Nat.le_of_ble_eq_true rfl⟩) ro_pre0 rfl rfl hl.1 rfl (lv_room (Nat.le_of_ble_eq_true rfl)) d_S_several_54 ⟨Nat.le_of_ble_eq_true rfl, Nat.le_of_ble_eq_true rfl⟩) (fun r9 hr9 => ?_)
          subst hr9
          cases hm
        · replace hm := if_f c9 hm
          refine lv_aload_n hx hb d_S_several_47 rfl (lv_at hl 1 rfl) ?_
          refine lv_iload_n hx hb d_S_several_48 rfl (lv_at hl 2 rfl) ?_
          refine lv_iload_n hx hb d_S_several_49 rfl (lv_at hl 0 rfl) ?_
          obtain ⟨⟨u8, u9, u10, u11⟩, hc, hm⟩ := bd hm
          try dsimp only at hm
          have hPc := hP.sub (ws' := [(sq, .inr (4, [.ref pq, .ref oq, .ref sq3, .ref sq4, .ref uq, .ref hq, .ref mq, .int s_today, .int s_cutOff, .int s_agingOff, .int s_saleAge])), (pq, .inr (0, [.ref pq1, .ref pq2, .ref pq3, .ref pq4, .int p_count])), (pq1, .inl (cI, 10, .inl p_thicks)), (pq2, .inl (cI, 10, .inl p_wides)), (pq3, .inl (cI, 10, .inl p_lengths)), (pq4, .inl (cI, 10, .inl p_grades)), (oq, .inr (0, [.ref oq1, .ref oq2, .ref oq3, .ref oq4, .int o_count])), (oq1, .inl (cI, 10, .inl o_thicks)), (oq2, .inl (cI, 10, .inl o_wides)), (oq3, .inl (cI, 10, .inl o_lengths)), (oq4, .inl (cI, 10, .inl o_grades)), (sq3, .inl (cI, 10, .inl s_cameOn)), (sq4, .inl (cI, 100, .inl s_told)), (uq, .inr (1, [.ref uq1, .int u_usedOrders])), (uq1, .inl (cI, 10, .inl u_ordersOfPiece)), (hq, .inr (2, [.ref hq1, .ref hq2, .int h_heldOrders])), (hq1, .inl (cI, 10, .inl h_orderOfPiece)), (hq2, .inl (cI, 10, .inl h_lastDay)), (mq, .inr (3, [.ref mq1, .ref mq2, .ref mq3, .ref mq4, .ref mq5, .int m_pieceCount, .int m_orderCount, .int m_pairs, .int m_worthSum, .int m_upToDate])), (mq1, .inl (cI, 100, .inl m_gains)), (mq2, .inl (cI, 11264, .inl m_best)), (mq3, .inl (cI, 10, .inl m_chosen)), (mq4, .inl (cI, 10, .inl m_pieceDuals)), (mq5, .inl (cI, 10, .inl m_orderDuals))]) [0, 1, 2, 3, 4, 5, 6, 7, 8, 9, 10, 11, 12, 13, 14, 15, 16, 17, 18, 19, 20, 21, 22, 23] rfl
          have hDc := hD.sub (ws' := [(sq, .inr (4, [.ref pq, .ref oq, .ref sq3, .ref sq4, .ref uq, .ref hq, .ref mq, .int s_today, .int s_cutOff, .int s_agingOff, .int s_saleAge])), (pq, .inr (0, [.ref pq1, .ref pq2, .ref pq3, .ref pq4, .int p_count])), (pq1, .inl (cI, 10, .inl p_thicks)), (pq2, .inl (cI, 10, .inl p_wides)), (pq3, .inl (cI, 10, .inl p_lengths)), (pq4, .inl (cI, 10, .inl p_grades)), (oq, .inr (0, [.ref oq1, .ref oq2, .ref oq3, .ref oq4, .int o_count])), (oq1, .inl (cI, 10, .inl o_thicks)), (oq2, .inl (cI, 10, .inl o_wides)), (oq3, .inl (cI, 10, .inl o_lengths)), (oq4, .inl (cI, 10, .inl o_grades)), (sq3, .inl (cI, 10, .inl s_cameOn)), (sq4, .inl (cI, 100, .inl s_told)), (uq, .inr (1, [.ref uq1, .int u_usedOrders])), (uq1, .inl (cI, 10, .inl u_ordersOfPiece)), (hq, .inr (2, [.ref hq1, .ref hq2, .int h_heldOrders])), (hq1, .inl (cI, 10, .inl h_orderOfPiece)), (hq2, .inl (cI, 10, .inl h_lastDay)), (mq, .inr (3, [.ref mq1, .ref mq2, .ref mq3, .ref mq4, .ref mq5, .int m_pieceCount, .int m_orderCount, .int m_pairs, .int m_worthSum, .int m_upToDate])), (mq1, .inl (cI, 100, .inl m_gains)), (mq2, .inl (cI, 11264, .inl m_best)), (mq3, .inl (cI, 10, .inl m_chosen)), (mq4, .inl (cI, 10, .inl m_pieceDuals)), (mq5, .inl (cI, 10, .inl m_orderDuals))]) [0, 1, 2, 3, 4, 5, 6, 7, 8, 9, 10, 11, 12, 13, 14, 15, 16, 17, 18, 19, 20, 21, 22, 23] (by decide) rfl
          have hFc := va_free (wc := [(sq, .inr (4, [.ref pq, .ref oq, .ref sq3, .ref sq4, .ref uq, .ref hq, .ref mq, .int s_today, .int s_cutOff, .int s_agingOff, .int s_saleAge])), (pq, .inr (0, [.ref pq1, .ref pq2, .ref pq3, .ref pq4, .int p_count])), (pq1, .inl (cI, 10, .inl p_thicks)), (pq2, .inl (cI, 10, .inl p_wides)), (pq3, .inl (cI, 10, .inl p_lengths)), (pq4, .inl (cI, 10, .inl p_grades)), (oq, .inr (0, [.ref oq1, .ref oq2, .ref oq3, .ref oq4, .int o_count])), (oq1, .inl (cI, 10, .inl o_thicks)), (oq2, .inl (cI, 10, .inl o_wides)), (oq3, .inl (cI, 10, .inl o_lengths)), (oq4, .inl (cI, 10, .inl o_grades)), (sq3, .inl (cI, 10, .inl s_cameOn)), (sq4, .inl (cI, 100, .inl s_told)), (uq, .inr (1, [.ref uq1, .int u_usedOrders])), (uq1, .inl (cI, 10, .inl u_ordersOfPiece)), (hq, .inr (2, [.ref hq1, .ref hq2, .int h_heldOrders])), (hq1, .inl (cI, 10, .inl h_orderOfPiece)), (hq2, .inl (cI, 10, .inl h_lastDay)), (mq, .inr (3, [.ref mq1, .ref mq2, .ref mq3, .ref mq4, .ref mq5, .int m_pieceCount, .int m_orderCount, .int m_pairs, .int m_worthSum, .int m_upToDate])), (mq1, .inl (cI, 100, .inl m_gains)), (mq2, .inl (cI, 11264, .inl m_best)), (mq3, .inl (cI, 10, .inl m_chosen)), (mq4, .inl (cI, 10, .inl m_pieceDuals)), (mq5, .inl (cI, 10, .inl m_orderDuals))]) hD hS hA [0, 1, 2, 3, 4, 5, 6, 7, 8, 9, 10, 11, 12, 13, 14, 15, 16, 17, 18, 19, 20, 21, 22, 23] rfl
          refine va_callv (va_runV (As := [.int x1, .int r4]) (rest := []) ⟨hx, hb, hml, hown, hts⟩ (c_S_cutPiece l dC dI cI sq pq pq1 pq2 pq3 pq4 oq oq1 oq2 oq3 oq4 sq3 sq4 uq uq1 hq hq1 hq2 mq mq1 mq2 mq3 mq4 mq5 s.heap.size p_thicks p_wides p_lengths p_grades p_count o_thicks o_wides o_lengths o_grades o_count s_cameOn s_told u_ordersOfPiece u_usedOrders h_orderOfPiece h_lastDay h_heldOrders m_gains m_best m_chosen m_pieceDuals m_orderDuals m_pieceCount m_orderCount m_pairs m_worthSum m_upToDate s_today s_cutOff s_agingOff s_saleAge x1 r4 N (u8, u9, u10, u11) hc) (cwV 2 hts (gV (w0 266 rfl) (w0 267 rfl) (w0 10 rfl) (w0 28 rfl) (w0 268 rfl)) rfl rfl rfl q_S_cutPiece ⟨Nat.le_of_ble_eq_true rfl, Nat.le_of_ble_eq_true rfl⟩) (wr_preV hK hPc hDc hN 4 0 (R_S, F_S, 11) rfl rfl) rfl rfl hl.1 rfl (lv_room (Nat.le_of_ble_eq_true rfl)) d_S_several_50 ⟨Nat.le_of_ble_eq_true rfl, Nat.le_of_ble_eq_true rfl⟩) hS (fun q _ h => hFc q h) hFc (fun u t H1 locs ht hvm hw hB hz1 hk1 hS => ?_)
          obtain ⟨hP1, hK1, hD1⟩ := hB
          rw [ht] at hP1
          obtain ⟨hP, hD⟩ := va_join (wr := []) (w1 := [(sq, .inr (4, [.ref pq, .ref oq, .ref sq3, .ref sq4, .ref uq, .ref hq, .ref mq, .int s_today, .int s_cutOff, .int s_agingOff, .int s_saleAge])), (pq, .inr (0, [.ref pq1, .ref pq2, .ref pq3, .ref pq4, .int p_count])), (pq1, .inl (cI, 10, .inl p_thicks)), (pq2, .inl (cI, 10, .inl p_wides)), (pq3, .inl (cI, 10, .inl p_lengths)), (pq4, .inl (cI, 10, .inl p_grades)), (oq, .inr (0, [.ref oq1, .ref oq2, .ref oq3, .ref oq4, .int o_count])), (oq1, .inl (cI, 10, .inl o_thicks)), (oq2, .inl (cI, 10, .inl o_wides)), (oq3, .inl (cI, 10, .inl o_lengths)), (oq4, .inl (cI, 10, .inl o_grades)), (sq3, .inl (cI, 10, .inl s_cameOn)), (sq4, .inl (cI, 100, .inl s_told)), (uq, .inr (1, [.ref uq1, .int u9])), (uq1, .inl (cI, 10, .inl u8)), (hq, .inr (2, [.ref hq1, .ref hq2, .int u11])), (hq1, .inl (cI, 10, .inl u10)), (hq2, .inl (cI, 10, .inl h_lastDay)), (mq, .inr (3, [.ref mq1, .ref mq2, .ref mq3, .ref mq4, .ref mq5, .int m_pieceCount, .int m_orderCount, .int m_pairs, .int m_worthSum, .int m_upToDate])), (mq1, .inl (cI, 100, .inl m_gains)), (mq2, .inl (cI, 11264, .inl m_best)), (mq3, .inl (cI, 10, .inl m_chosen)), (mq4, .inl (cI, 10, .inl m_pieceDuals)), (mq5, .inl (cI, 10, .inl m_orderDuals))]) hP hD [0, 1, 2, 3, 4, 5, 6, 7, 8, 9, 10, 11, 12, 13, 14, 15, 16, 17, 18, 19, 20, 21, 22, 23] [] rfl rfl (by decide) (by decide) hk1 hFc hP1 hD1
          generalize H1 = H at hP hS ⊢
          have hP : va_P (dC, dI) classes [(sq, .inr (4, [.ref pq, .ref oq, .ref sq3, .ref sq4, .ref uq, .ref hq, .ref mq, .int s_today, .int s_cutOff, .int s_agingOff, .int s_saleAge])), (pq, .inr (0, [.ref pq1, .ref pq2, .ref pq3, .ref pq4, .int p_count])), (pq1, .inl (cI, 10, .inl p_thicks)), (pq2, .inl (cI, 10, .inl p_wides)), (pq3, .inl (cI, 10, .inl p_lengths)), (pq4, .inl (cI, 10, .inl p_grades)), (oq, .inr (0, [.ref oq1, .ref oq2, .ref oq3, .ref oq4, .int o_count])), (oq1, .inl (cI, 10, .inl o_thicks)), (oq2, .inl (cI, 10, .inl o_wides)), (oq3, .inl (cI, 10, .inl o_lengths)), (oq4, .inl (cI, 10, .inl o_grades)), (sq3, .inl (cI, 10, .inl s_cameOn)), (sq4, .inl (cI, 100, .inl s_told)), (uq, .inr (1, [.ref uq1, .int u9])), (uq1, .inl (cI, 10, .inl u8)), (hq, .inr (2, [.ref hq1, .ref hq2, .int u11])), (hq1, .inl (cI, 10, .inl u10)), (hq2, .inl (cI, 10, .inl h_lastDay)), (mq, .inr (3, [.ref mq1, .ref mq2, .ref mq3, .ref mq4, .ref mq5, .int m_pieceCount, .int m_orderCount, .int m_pairs, .int m_worthSum, .int m_upToDate])), (mq1, .inl (cI, 100, .inl m_gains)), (mq2, .inl (cI, 11264, .inl m_best)), (mq3, .inl (cI, 10, .inl m_chosen)), (mq4, .inl (cI, 10, .inl m_pieceDuals)), (mq5, .inl (cI, 10, .inl m_orderDuals))] H := hP
          have hD : va_D A [(sq, .inr (4, [.ref pq, .ref oq, .ref sq3, .ref sq4, .ref uq, .ref hq, .ref mq, .int s_today, .int s_cutOff, .int s_agingOff, .int s_saleAge])), (pq, .inr (0, [.ref pq1, .ref pq2, .ref pq3, .ref pq4, .int p_count])), (pq1, .inl (cI, 10, .inl p_thicks)), (pq2, .inl (cI, 10, .inl p_wides)), (pq3, .inl (cI, 10, .inl p_lengths)), (pq4, .inl (cI, 10, .inl p_grades)), (oq, .inr (0, [.ref oq1, .ref oq2, .ref oq3, .ref oq4, .int o_count])), (oq1, .inl (cI, 10, .inl o_thicks)), (oq2, .inl (cI, 10, .inl o_wides)), (oq3, .inl (cI, 10, .inl o_lengths)), (oq4, .inl (cI, 10, .inl o_grades)), (sq3, .inl (cI, 10, .inl s_cameOn)), (sq4, .inl (cI, 100, .inl s_told)), (uq, .inr (1, [.ref uq1, .int u9])), (uq1, .inl (cI, 10, .inl u8)), (hq, .inr (2, [.ref hq1, .ref hq2, .int u11])), (hq1, .inl (cI, 10, .inl u10)), (hq2, .inl (cI, 10, .inl h_lastDay)), (mq, .inr (3, [.ref mq1, .ref mq2, .ref mq3, .ref mq4, .ref mq5, .int m_pieceCount, .int m_orderCount, .int m_pairs, .int m_worthSum, .int m_upToDate])), (mq1, .inl (cI, 100, .inl m_gains)), (mq2, .inl (cI, 11264, .inl m_best)), (mq3, .inl (cI, 10, .inl m_chosen)), (mq4, .inl (cI, 10, .inl m_pieceDuals)), (mq5, .inl (cI, 10, .inl m_orderDuals))] := hD
          clear hP1 hD1 hPc hDc hFc hk1 hz1
          refine lv_iload_n hx hb d_S_several_53 rfl (lv_at hl 0 rfl) ?_
          obtain ⟨r12, hc, hm⟩ := bd hm
          try dsimp only at hm
          refine vp_callSi (W.runS (As := [.int r4]) (rest := []) ⟨hx, hb, hml, hown, hts⟩ (c_J_bitCount l dC dI cI r4 N r12 hc) (va_cwS 1 hts (gT (w0 500 rfl) (w0 501 rfl) (w0 43 rfl) (w0 502 rfl)) rfl rfl rfl q_J_bitCount.2 ⟨Nat.le_of_ble_eq_true rfl, Nat.le_of_ble_eq_true rfl⟩) ro_pre0 rfl rfl hl.1 rfl (lv_room (Nat.le_of_ble_eq_true rfl)) d_S_several_54 ⟨Nat.le_of_ble_eq_true rfl, Nat.le_of_ble_eq_true rfl⟩) (fun r9 hr9 => ?_)
          subst hr9
          cases hm
      · replace hm := if_f c9 hm
        cases hm
        obtain ⟨sa, hsa⟩ := hE.2.2.2.2 (166, "the piece is used or reserved") (List.mem_of_getElem? (i := 7) rfl)
        exact xt_throw (cls := "java/lang/IllegalStateException") (names := xnm) hx hb hst hown (by decide +kernel) xnm_fit hk2 hk3 hsa (hat_1 hts hE) (hl.1.trans hml.symm) d_S_several_27 d_S_several_30 d_S_several_31 d_S_several_33 d_S_several_36 hout (Nat.le_of_ble_eq_true rfl) (Nat.le_of_ble_eq_true rfl) (Nat.le_of_ble_eq_true rfl) (Nat.le_of_ble_eq_true rfl) hlocks

def w_S_orderOf : List Cond := .code y_S_orderOf b_S_orderOf 3 (some .int) :: W0
theorem q_S_orderOf : y_S_orderOf.cls = R_S ∧ y_S_orderOf.cls ≠ "java/lang/invoke/MethodHandle" ∧ y_S_orderOf.cls ≠ "java/lang/invoke/VarHandle" ∧ (parseMethodDescriptor y_S_orderOf.desc).map (fun d => d.parameters.length) = some 2 := by decide +kernel
def m_S_orderOf (N : Nat) (p_count : Int32) (u_ordersOfPiece : Nat → Int32) (x1 : Int32) (x2 : Int32) : Option (Nat ⊕ Int32) :=
  ((m_S_refuseUnknownPiece p_count x1).bind (tk fun _ =>
  ((m_S_refuseNegative x2).bind (tk fun _ =>
    ((m_U_orderAt N u_ordersOfPiece x1 x2).bind fun r3 =>
      some (.inr r3))))))
set_option maxHeartbeats 4000000 in
set_option maxRecDepth 100000 in
theorem c_S_orderOf (l : Launch) (dC : Nat → ClassId) (dI : Nat → Nat → Nat) (cI : ClassId) (sq pq pq1 pq2 pq3 pq4 oq oq1 oq2 oq3 oq4 sq3 sq4 uq uq1 hq hq1 hq2 mq mq1 mq2 mq3 mq4 mq5 : Nat) (p_thicks : Nat → Int32) (p_wides : Nat → Int32) (p_lengths : Nat → Int32) (p_grades : Nat → Int32) (p_count : Int32) (o_thicks : Nat → Int32) (o_wides : Nat → Int32) (o_lengths : Nat → Int32) (o_grades : Nat → Int32) (o_count : Int32) (s_cameOn : Nat → Int32) (s_told : Nat → Int32) (u_ordersOfPiece : Nat → Int32) (u_usedOrders : Int32) (h_orderOfPiece : Nat → Int32) (h_lastDay : Nat → Int32) (h_heldOrders : Int32) (m_gains : Nat → Int32) (m_best : Nat → Int32) (m_chosen : Nat → Int32) (m_pieceDuals : Nat → Int32) (m_orderDuals : Nat → Int32) (m_pieceCount : Int32) (m_orderCount : Int32) (m_pairs : Int32) (m_worthSum : Int32) (m_upToDate : Int32) (s_today : Int32) (s_cutOff : Int32) (s_agingOff : Int32) (s_saleAge : Int32) (x1 : Int32) (x2 : Int32) (N : Nat) (res : Int32) (hm : m_S_orderOf N p_count u_ordersOfPiece x1 x2 = some (.inr res)) : Met l y_S_orderOf w_S_orderOf ({ frames := 2, cells := 0, slots := 0, locals := 42 } : Room) (va_Pc [.ref sq, .int x1, .int x2] (fun U => va_P (dC, dI) classes [(sq, .inr (4, [.ref pq, .ref oq, .ref sq3, .ref sq4, .ref uq, .ref hq, .ref mq, .int s_today, .int s_cutOff, .int s_agingOff, .int s_saleAge])), (pq, .inr (0, [.ref pq1, .ref pq2, .ref pq3, .ref pq4, .int p_count])), (pq1, .inl (cI, 10, .inl p_thicks)), (pq2, .inl (cI, 10, .inl p_wides)), (pq3, .inl (cI, 10, .inl p_lengths)), (pq4, .inl (cI, 10, .inl p_grades)), (oq, .inr (0, [.ref oq1, .ref oq2, .ref oq3, .ref oq4, .int o_count])), (oq1, .inl (cI, 10, .inl o_thicks)), (oq2, .inl (cI, 10, .inl o_wides)), (oq3, .inl (cI, 10, .inl o_lengths)), (oq4, .inl (cI, 10, .inl o_grades)), (sq3, .inl (cI, 10, .inl s_cameOn)), (sq4, .inl (cI, 100, .inl s_told)), (uq, .inr (1, [.ref uq1, .int u_usedOrders])), (uq1, .inl (cI, 10, .inl u_ordersOfPiece)), (hq, .inr (2, [.ref hq1, .ref hq2, .int h_heldOrders])), (hq1, .inl (cI, 10, .inl h_orderOfPiece)), (hq2, .inl (cI, 10, .inl h_lastDay)), (mq, .inr (3, [.ref mq1, .ref mq2, .ref mq3, .ref mq4, .ref mq5, .int m_pieceCount, .int m_orderCount, .int m_pairs, .int m_worthSum, .int m_upToDate])), (mq1, .inl (cI, 100, .inl m_gains)), (mq2, .inl (cI, 11264, .inl m_best)), (mq3, .inl (cI, 10, .inl m_chosen)), (mq4, .inl (cI, 10, .inl m_pieceDuals)), (mq5, .inl (cI, 10, .inl m_orderDuals))] U.heap ∧ va_K (dC, dI) classes [(cI, .int)] U ∧ nw U)) (vp_Si (fun x => res = x)) 0 0 (fun _ => False) := by
  unfold m_S_orderOf at hm
  refine Met.ofW (cc := b_S_orderOf) (maxL := 3) (ret := (some .int)) (by decide) rfl ?_
  intro p e s m args below meth c s₁ B hml hv
  obtain ⟨rfl, hP, hK, hN⟩ := hv
  have hx := B.exec
  have hb := B.bytes
  have hr := B.returns
  have hts := atoms_spec (ws := w_S_orderOf) B.pre
  have hown : s.vm.findClass R_S = some m.cls := findClass_of_methodNamed B.named
  have hlocks := B.notSynchronized
  have hk0 := hts (.fieldLink R_S 29 "SurplusMatch" "uses" "LSurplusMatch$Uses;") (List.mem_cons_of_mem _ (w0 145 rfl))
  have hk1 : ∀ w ∈ w_S, w ∈ w_S_orderOf := fun w h => List.mem_cons_of_mem _ (i_S w h)
  have hl := lv_entry ([.ref sq, .int x1, .int x2]) (n := 3) (Nat.le_of_ble_eq_true rfl)
  rw [lg_entry_eq]
  generalize (lg_sl ([.ref sq, .int x1, .int x2]) ++ List.replicate (3 - (lg_sl ([.ref sq, .int x1, .int x2])).length) Slot.unset).toArray = ls at hl ⊢
  have hl : lv_has ls 3 [(0, .ref sq), (1, .int x1), (2, .int x2)] := hl
  refine lv_aload_n hx hb d_S_orderOf_0 rfl (lv_at hl 0 rfl) ?_
  refine lv_iload_n hx hb d_S_orderOf_1 rfl (lv_at hl 1 rfl) ?_
  obtain ⟨z9, hc, hm⟩ := bd hm
  rcases z9 with k9 | ⟨⟩
  · dsimp only [tk] at hm
    cases hm
  · dsimp only [tk] at hm
    refine va_csv (W.runV (As := [.int x1]) (rest := []) ⟨hx, hb, hml, hown, hts⟩ (c_S_refuseUnknownPiece l dC dI cI sq pq pq1 pq2 pq3 pq4 oq oq1 oq2 oq3 oq4 sq3 sq4 uq uq1 hq hq1 hq2 mq mq1 mq2 mq3 mq4 mq5 p_thicks p_wides p_lengths p_grades p_count o_thicks o_wides o_lengths o_grades o_count s_cameOn s_told u_ordersOfPiece u_usedOrders h_orderOfPiece h_lastDay h_heldOrders m_gains m_best m_chosen m_pieceDuals m_orderDuals m_pieceCount m_orderCount m_pairs m_worthSum m_upToDate s_today s_cutOff s_agingOff s_saleAge x1 N () hc) (cwV 1 hts (gV (w0 406 rfl) (w0 407 rfl) (w0 12 rfl) (w0 28 rfl) (w0 408 rfl)) rfl rfl rfl q_S_refuseUnknownPiece ⟨Nat.le_of_ble_eq_true rfl, Nat.le_of_ble_eq_true rfl⟩) (ro_preV [0, 1, 2, 3, 4, 5, 6, 7, 8, 9, 10, 11, 12, 13, 14, 15, 16, 17, 18, 19, 20, 21, 22, 23] rfl hK hP hN 4 0 (R_S, F_S, 11) rfl rfl) rfl rfl hl.1 rfl (lv_room (Nat.le_of_ble_eq_true rfl)) d_S_orderOf_2 ⟨Nat.le_of_ble_eq_true rfl, Nat.le_of_ble_eq_true rfl⟩) (fun _ => ?_)
    refine lv_iload_n hx hb d_S_orderOf_5 rfl (lv_at hl 2 rfl) ?_
    obtain ⟨z9, hc, hm⟩ := bd hm
    rcases z9 with k9 | ⟨⟩
    · dsimp only [tk] at hm
      cases hm
    · dsimp only [tk] at hm
      refine va_csv (W.runS (As := [.int x2]) (rest := []) ⟨hx, hb, hml, hown, hts⟩ (c_S_refuseNegative l dC dI cI x2 N () hc) (cwS 1 hts (gS (w0 524 rfl) (w0 525 rfl) (w0 28 rfl) (w0 526 rfl)) rfl rfl rfl q_S_refuseNegative ⟨Nat.le_of_ble_eq_true rfl, Nat.le_of_ble_eq_true rfl⟩) ro_pre0 rfl rfl hl.1 rfl (lv_room (Nat.le_of_ble_eq_true rfl)) d_S_orderOf_6 ⟨Nat.le_of_ble_eq_true rfl, Nat.le_of_ble_eq_true rfl⟩) (fun _ => ?_)
      refine lv_aload_n hx hb d_S_orderOf_9 rfl (lv_at hl 0 rfl) ?_
      refine va_get (D := (dC, dI)) (ci := 4) (v := .ref uq) (C := R_S) (T := F_S) (N := 11) hx hb hts hk1 hown hK hP 0 rfl rfl 4 (by decide) hk0 (fun _ h9 => h9) rfl d_S_orderOf_10 ?_
      refine lv_iload_n hx hb d_S_orderOf_13 rfl (lv_at hl 1 rfl) ?_
      refine lv_iload_n hx hb d_S_orderOf_14 rfl (lv_at hl 2 rfl) ?_
      obtain ⟨r3, hc, hm⟩ := bd hm
      try dsimp only at hm
      refine vp_callSi (W.runV (As := [.int x1, .int x2]) (rest := []) ⟨hx, hb, hml, hown, hts⟩ (c_U_orderAt l dC dI cI uq uq1 u_ordersOfPiece u_usedOrders x1 x2 N r3 hc) (cwV 2 hts (gV (w0 527 rfl) (w0 528 rfl) (w0 529 rfl) (w0 30 rfl) (w0 530 rfl)) rfl rfl rfl q_U_orderAt ⟨Nat.le_of_ble_eq_true rfl, Nat.le_of_ble_eq_true rfl⟩) (ro_preV [13, 14] rfl hK hP hN 1 0 (R_U, F_U, 2) rfl rfl) rfl rfl hl.1 rfl (lv_room (Nat.le_of_ble_eq_true rfl)) d_S_orderOf_15 ⟨Nat.le_of_ble_eq_true rfl, Nat.le_of_ble_eq_true rfl⟩) (fun r9 hr9 => ?_)
      subst hr9
      cases hm
      exact W.iret hx hb hr (fun t ht hW => ⟨_, rfl, rfl, ht⟩) (fun _ h => nomatch h) d_S_orderOf_18
set_option maxHeartbeats 4000000 in
set_option maxRecDepth 100000 in
theorem x_S_orderOf (l : Launch) (dC : Nat → ClassId) (dI : Nat → Nat → Nat) (cI : ClassId) (sq pq pq1 pq2 pq3 pq4 oq oq1 oq2 oq3 oq4 sq3 sq4 uq uq1 hq hq1 hq2 mq mq1 mq2 mq3 mq4 mq5 : Nat) (p_thicks : Nat → Int32) (p_wides : Nat → Int32) (p_lengths : Nat → Int32) (p_grades : Nat → Int32) (p_count : Int32) (o_thicks : Nat → Int32) (o_wides : Nat → Int32) (o_lengths : Nat → Int32) (o_grades : Nat → Int32) (o_count : Int32) (s_cameOn : Nat → Int32) (s_told : Nat → Int32) (u_ordersOfPiece : Nat → Int32) (u_usedOrders : Int32) (h_orderOfPiece : Nat → Int32) (h_lastDay : Nat → Int32) (h_heldOrders : Int32) (m_gains : Nat → Int32) (m_best : Nat → Int32) (m_chosen : Nat → Int32) (m_pieceDuals : Nat → Int32) (m_orderDuals : Nat → Int32) (m_pieceCount : Int32) (m_orderCount : Int32) (m_pairs : Int32) (m_worthSum : Int32) (m_upToDate : Int32) (s_today : Int32) (s_cutOff : Int32) (s_agingOff : Int32) (s_saleAge : Int32) (x1 : Int32) (x2 : Int32) (N : Nat) (k : Nat) (hst : l.stackTraces = false) (hm : m_S_orderOf N p_count u_ordersOfPiece x1 x2 = some (.inl k)) : xt_Met l y_S_orderOf w_S_orderOf ({ frames := 7, cells := 1, slots := 6, locals := 117 } : Room) (va_Pc [.ref sq, .int x1, .int x2] (fun U => va_P (dC, dI) classes [(sq, .inr (4, [.ref pq, .ref oq, .ref sq3, .ref sq4, .ref uq, .ref hq, .ref mq, .int s_today, .int s_cutOff, .int s_agingOff, .int s_saleAge])), (pq, .inr (0, [.ref pq1, .ref pq2, .ref pq3, .ref pq4, .int p_count])), (pq1, .inl (cI, 10, .inl p_thicks)), (pq2, .inl (cI, 10, .inl p_wides)), (pq3, .inl (cI, 10, .inl p_lengths)), (pq4, .inl (cI, 10, .inl p_grades)), (oq, .inr (0, [.ref oq1, .ref oq2, .ref oq3, .ref oq4, .int o_count])), (oq1, .inl (cI, 10, .inl o_thicks)), (oq2, .inl (cI, 10, .inl o_wides)), (oq3, .inl (cI, 10, .inl o_lengths)), (oq4, .inl (cI, 10, .inl o_grades)), (sq3, .inl (cI, 10, .inl s_cameOn)), (sq4, .inl (cI, 100, .inl s_told)), (uq, .inr (1, [.ref uq1, .int u_usedOrders])), (uq1, .inl (cI, 10, .inl u_ordersOfPiece)), (hq, .inr (2, [.ref hq1, .ref hq2, .int h_heldOrders])), (hq1, .inl (cI, 10, .inl h_orderOfPiece)), (hq2, .inl (cI, 10, .inl h_lastDay)), (mq, .inr (3, [.ref mq1, .ref mq2, .ref mq3, .ref mq4, .ref mq5, .int m_pieceCount, .int m_orderCount, .int m_pairs, .int m_worthSum, .int m_upToDate])), (mq1, .inl (cI, 100, .inl m_gains)), (mq2, .inl (cI, 11264, .inl m_best)), (mq3, .inl (cI, 10, .inl m_chosen)), (mq4, .inl (cI, 10, .inl m_pieceDuals)), (mq5, .inl (cI, 10, .inl m_orderDuals))] U.heap ∧ va_K (dC, dI) classes [(cI, .int)] U ∧ nw U ∧ xE xTx U U.heap)) (xn k) := by
  unfold m_S_orderOf at hm
  refine xt_ofW (cc := b_S_orderOf) (maxL := 3) (ret := (some .int)) (by decide) rfl ?_
  intro p e s m args below meth c s₁ B hml hout hv
  obtain ⟨rfl, hP, hK, hN, hE⟩ := hv
  have hx := B.exec
  have hb := B.bytes
  have hr := B.returns
  have hts := atoms_spec (ws := w_S_orderOf) B.pre
  have hown : s.vm.findClass R_S = some m.cls := findClass_of_methodNamed B.named
  have hlocks := B.notSynchronized
  have hk0 := hts (.fieldLink R_S 29 "SurplusMatch" "uses" "LSurplusMatch$Uses;") (List.mem_cons_of_mem _ (w0 145 rfl))
  have hk1 : ∀ w ∈ w_S, w ∈ w_S_orderOf := fun w h => List.mem_cons_of_mem _ (i_S w h)
  have hl := lv_entry ([.ref sq, .int x1, .int x2]) (n := 3) (Nat.le_of_ble_eq_true rfl)
  rw [lg_entry_eq]
  generalize (lg_sl ([.ref sq, .int x1, .int x2]) ++ List.replicate (3 - (lg_sl ([.ref sq, .int x1, .int x2])).length) Slot.unset).toArray = ls at hl ⊢
  have hl : lv_has ls 3 [(0, .ref sq), (1, .int x1), (2, .int x2)] := hl
  refine lv_aload_n hx hb d_S_orderOf_0 rfl (lv_at hl 0 rfl) ?_
  refine lv_iload_n hx hb d_S_orderOf_1 rfl (lv_at hl 1 rfl) ?_
  obtain ⟨z9, hc, hm⟩ := bd hm
  rcases z9 with k9 | ⟨⟩
  · dsimp only [tk] at hm
    cases hm
    exact xt_runV (As := [.int x1]) (rest := []) ⟨hx, hb, hml, hown, hts⟩ (x_S_refuseUnknownPiece l dC dI cI sq pq pq1 pq2 pq3 pq4 oq oq1 oq2 oq3 oq4 sq3 sq4 uq uq1 hq hq1 hq2 mq mq1 mq2 mq3 mq4 mq5 p_thicks p_wides p_lengths p_grades p_count o_thicks o_wides o_lengths o_grades o_count s_cameOn s_told u_ordersOfPiece u_usedOrders h_orderOfPiece h_lastDay h_heldOrders m_gains m_best m_chosen m_pieceDuals m_orderDuals m_pieceCount m_orderCount m_pairs m_worthSum m_upToDate s_today s_cutOff s_agingOff s_saleAge x1 N _ hst hc) (cwV 1 hts (gV (w0 406 rfl) (w0 407 rfl) (w0 12 rfl) (w0 28 rfl) (w0 408 rfl)) rfl rfl rfl q_S_refuseUnknownPiece ⟨Nat.le_of_ble_eq_true rfl, Nat.le_of_ble_eq_true rfl⟩) (rx_preV [0, 1, 2, 3, 4, 5, 6, 7, 8, 9, 10, 11, 12, 13, 14, 15, 16, 17, 18, 19, 20, 21, 22, 23] rfl hK hP hN hE 4 0 (R_S, F_S, 11) rfl rfl) rfl rfl hl.1 rfl (lv_room (Nat.le_of_ble_eq_true rfl)) d_S_orderOf_2 ⟨Nat.le_of_ble_eq_true rfl, Nat.le_of_ble_eq_true rfl⟩ (fun q ce H1 hce hcv hcl hz hk => xt_out hout hlocks hce hcv hcl)
  · dsimp only [tk] at hm
    refine va_csv (W.runV (As := [.int x1]) (rest := []) ⟨hx, hb, hml, hown, hts⟩ (c_S_refuseUnknownPiece l dC dI cI sq pq pq1 pq2 pq3 pq4 oq oq1 oq2 oq3 oq4 sq3 sq4 uq uq1 hq hq1 hq2 mq mq1 mq2 mq3 mq4 mq5 p_thicks p_wides p_lengths p_grades p_count o_thicks o_wides o_lengths o_grades o_count s_cameOn s_told u_ordersOfPiece u_usedOrders h_orderOfPiece h_lastDay h_heldOrders m_gains m_best m_chosen m_pieceDuals m_orderDuals m_pieceCount m_orderCount m_pairs m_worthSum m_upToDate s_today s_cutOff s_agingOff s_saleAge x1 N () hc) (cwV 1 hts (gV (w0 406 rfl) (w0 407 rfl) (w0 12 rfl) (w0 28 rfl) (w0 408 rfl)) rfl rfl rfl q_S_refuseUnknownPiece ⟨Nat.le_of_ble_eq_true rfl, Nat.le_of_ble_eq_true rfl⟩) (ro_preV [0, 1, 2, 3, 4, 5, 6, 7, 8, 9, 10, 11, 12, 13, 14, 15, 16, 17, 18, 19, 20, 21, 22, 23] rfl hK hP hN 4 0 (R_S, F_S, 11) rfl rfl) rfl rfl hl.1 rfl (lv_room (Nat.le_of_ble_eq_true rfl)) d_S_orderOf_2 ⟨Nat.le_of_ble_eq_true rfl, Nat.le_of_ble_eq_true rfl⟩) (fun _ => ?_)
    refine lv_iload_n hx hb d_S_orderOf_5 rfl (lv_at hl 2 rfl) ?_
    obtain ⟨z9, hc, hm⟩ := bd hm
    rcases z9 with k9 | ⟨⟩
    · dsimp only [tk] at hm
      cases hm
      exact xt_runS (As := [.int x2]) (rest := []) ⟨hx, hb, hml, hown, hts⟩ (x_S_refuseNegative l dC dI cI x2 N _ hst hc) (cwS 1 hts (gS (w0 524 rfl) (w0 525 rfl) (w0 28 rfl) (w0 526 rfl)) rfl rfl rfl q_S_refuseNegative ⟨Nat.le_of_ble_eq_true rfl, Nat.le_of_ble_eq_true rfl⟩) (rx_pre0 hE) rfl rfl hl.1 rfl (lv_room (Nat.le_of_ble_eq_true rfl)) d_S_orderOf_6 ⟨Nat.le_of_ble_eq_true rfl, Nat.le_of_ble_eq_true rfl⟩ (fun q ce H1 hce hcv hcl hz hk => xt_out hout hlocks hce hcv hcl)
    · dsimp only [tk] at hm
      refine va_csv (W.runS (As := [.int x2]) (rest := []) ⟨hx, hb, hml, hown, hts⟩ (c_S_refuseNegative l dC dI cI x2 N () hc) (cwS 1 hts (gS (w0 524 rfl) (w0 525 rfl) (w0 28 rfl) (w0 526 rfl)) rfl rfl rfl q_S_refuseNegative ⟨Nat.le_of_ble_eq_true rfl, Nat.le_of_ble_eq_true rfl⟩) ro_pre0 rfl rfl hl.1 rfl (lv_room (Nat.le_of_ble_eq_true rfl)) d_S_orderOf_6 ⟨Nat.le_of_ble_eq_true rfl, Nat.le_of_ble_eq_true rfl⟩) (fun _ => ?_)
      refine lv_aload_n hx hb d_S_orderOf_9 rfl (lv_at hl 0 rfl) ?_
      refine va_get (D := (dC, dI)) (ci := 4) (v := .ref uq) (C := R_S) (T := F_S) (N := 11) hx hb hts hk1 hown hK hP 0 rfl rfl 4 (by decide) hk0 (fun _ h9 => h9) rfl d_S_orderOf_10 ?_
      refine lv_iload_n hx hb d_S_orderOf_13 rfl (lv_at hl 1 rfl) ?_
      refine lv_iload_n hx hb d_S_orderOf_14 rfl (lv_at hl 2 rfl) ?_
      obtain ⟨r3, hc, hm⟩ := bd hm
      try dsimp only at hm
      refine vp_callSi (W.runV (As := [.int x1, .int x2]) (rest := []) ⟨hx, hb, hml, hown, hts⟩ (c_U_orderAt l dC dI cI uq uq1 u_ordersOfPiece u_usedOrders x1 x2 N r3 hc) (cwV 2 hts (gV (w0 527 rfl) (w0 528 rfl) (w0 529 rfl) (w0 30 rfl) (w0 530 rfl)) rfl rfl rfl q_U_orderAt ⟨Nat.le_of_ble_eq_true rfl, Nat.le_of_ble_eq_true rfl⟩) (ro_preV [13, 14] rfl hK hP hN 1 0 (R_U, F_U, 2) rfl rfl) rfl rfl hl.1 rfl (lv_room (Nat.le_of_ble_eq_true rfl)) d_S_orderOf_15 ⟨Nat.le_of_ble_eq_true rfl, Nat.le_of_ble_eq_true rfl⟩) (fun r9 hr9 => ?_)
      subst hr9
      cases hm

def w_S_reserve : List Cond := .code y_S_reserve b_S_reserve 4 none :: W0
theorem q_S_reserve : y_S_reserve.cls = R_S ∧ y_S_reserve.cls ≠ "java/lang/invoke/MethodHandle" ∧ y_S_reserve.cls ≠ "java/lang/invoke/VarHandle" ∧ (parseMethodDescriptor y_S_reserve.desc).map (fun d => d.parameters.length) = some 3 := by decide +kernel
def m_S_reserve (p_thicks : Nat → Int32) (p_wides : Nat → Int32) (p_lengths : Nat → Int32) (p_grades : Nat → Int32) (p_count : Int32) (o_thicks : Nat → Int32) (o_wides : Nat → Int32) (o_lengths : Nat → Int32) (o_grades : Nat → Int32) (o_count : Int32) (u_ordersOfPiece : Nat → Int32) (u_usedOrders : Int32) (h_orderOfPiece : Nat → Int32) (h_lastDay : Nat → Int32) (h_heldOrders : Int32) (s_today : Int32) (x1 : Int32) (x2 : Int32) (x3 : Int32) : Option (Nat ⊕ ((Nat → Int32) × (Nat → Int32) × Int32)) :=
  ((m_S_refuseUnknownPair p_count o_count x1 x2).bind (tk fun _ =>
  ((m_U_isPieceUsed u_ordersOfPiece x1).bind fun r2 =>
    (if r2 = 0 then
      ((m_U_isOrderUsed u_usedOrders x2).bind fun r3 =>
        (if r3 = 0 then
          ((m_H_isPieceHeld h_orderOfPiece x1).bind fun r4 =>
            (if r4 = 0 then
              ((m_H_isOrderHeld h_heldOrders x2).bind fun r5 =>
                (if r5 = 0 then
                  ((m_S_isWithin x3 s_today 9999).bind fun r6 =>
                    (if r6 = 0 then
                      some (.inl 2)
                     else
                      ((m_S_refuseMisfit p_thicks p_wides p_lengths p_grades o_thicks o_wides o_lengths o_grades x1 x2).bind (tk fun _ =>
                        ((m_H_hold h_orderOfPiece h_lastDay h_heldOrders x1 x2 x3).bind fun (u9, u10, u11) =>
                          some (.inr (u9, u10, u11)))))))
                 else
                  some (.inl 1)))
             else
              some (.inl 1)))
         else
          some (.inl 1)))
     else
      some (.inl 1)))))
set_option maxHeartbeats 4000000 in
set_option maxRecDepth 100000 in
theorem c_S_reserve (l : Launch) (dC : Nat → ClassId) (dI : Nat → Nat → Nat) (cI : ClassId) (sq pq pq1 pq2 pq3 pq4 oq oq1 oq2 oq3 oq4 sq3 sq4 uq uq1 hq hq1 hq2 mq mq1 mq2 mq3 mq4 mq5 : Nat) (sz : Nat) (p_thicks : Nat → Int32) (p_wides : Nat → Int32) (p_lengths : Nat → Int32) (p_grades : Nat → Int32) (p_count : Int32) (o_thicks : Nat → Int32) (o_wides : Nat → Int32) (o_lengths : Nat → Int32) (o_grades : Nat → Int32) (o_count : Int32) (s_cameOn : Nat → Int32) (s_told : Nat → Int32) (u_ordersOfPiece : Nat → Int32) (u_usedOrders : Int32) (h_orderOfPiece : Nat → Int32) (h_lastDay : Nat → Int32) (h_heldOrders : Int32) (m_gains : Nat → Int32) (m_best : Nat → Int32) (m_chosen : Nat → Int32) (m_pieceDuals : Nat → Int32) (m_orderDuals : Nat → Int32) (m_pieceCount : Int32) (m_orderCount : Int32) (m_pairs : Int32) (m_worthSum : Int32) (m_upToDate : Int32) (s_today : Int32) (s_cutOff : Int32) (s_agingOff : Int32) (s_saleAge : Int32) (x1 : Int32) (x2 : Int32) (x3 : Int32) (N : Nat) (res : (Nat → Int32) × (Nat → Int32) × Int32) (hm : m_S_reserve p_thicks p_wides p_lengths p_grades p_count o_thicks o_wides o_lengths o_grades o_count u_ordersOfPiece u_usedOrders h_orderOfPiece h_lastDay h_heldOrders s_today x1 x2 x3 = some (.inr res)) : Met l y_S_reserve w_S_reserve ({ frames := 3, cells := 0, slots := 0, locals := 64 } : Room) (va_Pc [.ref sq, .int x1, .int x2, .int x3] (fun U => U.heap.size = sz ∧ va_P (dC, dI) classes [(sq, .inr (4, [.ref pq, .ref oq, .ref sq3, .ref sq4, .ref uq, .ref hq, .ref mq, .int s_today, .int s_cutOff, .int s_agingOff, .int s_saleAge])), (pq, .inr (0, [.ref pq1, .ref pq2, .ref pq3, .ref pq4, .int p_count])), (pq1, .inl (cI, 10, .inl p_thicks)), (pq2, .inl (cI, 10, .inl p_wides)), (pq3, .inl (cI, 10, .inl p_lengths)), (pq4, .inl (cI, 10, .inl p_grades)), (oq, .inr (0, [.ref oq1, .ref oq2, .ref oq3, .ref oq4, .int o_count])), (oq1, .inl (cI, 10, .inl o_thicks)), (oq2, .inl (cI, 10, .inl o_wides)), (oq3, .inl (cI, 10, .inl o_lengths)), (oq4, .inl (cI, 10, .inl o_grades)), (sq3, .inl (cI, 10, .inl s_cameOn)), (sq4, .inl (cI, 100, .inl s_told)), (uq, .inr (1, [.ref uq1, .int u_usedOrders])), (uq1, .inl (cI, 10, .inl u_ordersOfPiece)), (hq, .inr (2, [.ref hq1, .ref hq2, .int h_heldOrders])), (hq1, .inl (cI, 10, .inl h_orderOfPiece)), (hq2, .inl (cI, 10, .inl h_lastDay)), (mq, .inr (3, [.ref mq1, .ref mq2, .ref mq3, .ref mq4, .ref mq5, .int m_pieceCount, .int m_orderCount, .int m_pairs, .int m_worthSum, .int m_upToDate])), (mq1, .inl (cI, 100, .inl m_gains)), (mq2, .inl (cI, 11264, .inl m_best)), (mq3, .inl (cI, 10, .inl m_chosen)), (mq4, .inl (cI, 10, .inl m_pieceDuals)), (mq5, .inl (cI, 10, .inl m_orderDuals))] U.heap ∧ va_K (dC, dI) classes [(cI, .int)] U ∧ va_D (fun _ => True) [(sq, .inr (4, [.ref pq, .ref oq, .ref sq3, .ref sq4, .ref uq, .ref hq, .ref mq, .int s_today, .int s_cutOff, .int s_agingOff, .int s_saleAge])), (pq, .inr (0, [.ref pq1, .ref pq2, .ref pq3, .ref pq4, .int p_count])), (pq1, .inl (cI, 10, .inl p_thicks)), (pq2, .inl (cI, 10, .inl p_wides)), (pq3, .inl (cI, 10, .inl p_lengths)), (pq4, .inl (cI, 10, .inl p_grades)), (oq, .inr (0, [.ref oq1, .ref oq2, .ref oq3, .ref oq4, .int o_count])), (oq1, .inl (cI, 10, .inl o_thicks)), (oq2, .inl (cI, 10, .inl o_wides)), (oq3, .inl (cI, 10, .inl o_lengths)), (oq4, .inl (cI, 10, .inl o_grades)), (sq3, .inl (cI, 10, .inl s_cameOn)), (sq4, .inl (cI, 100, .inl s_told)), (uq, .inr (1, [.ref uq1, .int u_usedOrders])), (uq1, .inl (cI, 10, .inl u_ordersOfPiece)), (hq, .inr (2, [.ref hq1, .ref hq2, .int h_heldOrders])), (hq1, .inl (cI, 10, .inl h_orderOfPiece)), (hq2, .inl (cI, 10, .inl h_lastDay)), (mq, .inr (3, [.ref mq1, .ref mq2, .ref mq3, .ref mq4, .ref mq5, .int m_pieceCount, .int m_orderCount, .int m_pairs, .int m_worthSum, .int m_upToDate])), (mq1, .inl (cI, 100, .inl m_gains)), (mq2, .inl (cI, 11264, .inl m_best)), (mq3, .inl (cI, 10, .inl m_chosen)), (mq4, .inl (cI, 10, .inl m_pieceDuals)), (mq5, .inl (cI, 10, .inl m_orderDuals))] ∧ nw U)) (va_Qv (fun _ : Unit => True) (fun _ t => va_P (dC, dI) classes [(sq, .inr (4, [.ref pq, .ref oq, .ref sq3, .ref sq4, .ref uq, .ref hq, .ref mq, .int s_today, .int s_cutOff, .int s_agingOff, .int s_saleAge])), (pq, .inr (0, [.ref pq1, .ref pq2, .ref pq3, .ref pq4, .int p_count])), (pq1, .inl (cI, 10, .inl p_thicks)), (pq2, .inl (cI, 10, .inl p_wides)), (pq3, .inl (cI, 10, .inl p_lengths)), (pq4, .inl (cI, 10, .inl p_grades)), (oq, .inr (0, [.ref oq1, .ref oq2, .ref oq3, .ref oq4, .int o_count])), (oq1, .inl (cI, 10, .inl o_thicks)), (oq2, .inl (cI, 10, .inl o_wides)), (oq3, .inl (cI, 10, .inl o_lengths)), (oq4, .inl (cI, 10, .inl o_grades)), (sq3, .inl (cI, 10, .inl s_cameOn)), (sq4, .inl (cI, 100, .inl s_told)), (uq, .inr (1, [.ref uq1, .int u_usedOrders])), (uq1, .inl (cI, 10, .inl u_ordersOfPiece)), (hq, .inr (2, [.ref hq1, .ref hq2, .int res.2.2])), (hq1, .inl (cI, 10, .inl res.1)), (hq2, .inl (cI, 10, .inl res.2.1)), (mq, .inr (3, [.ref mq1, .ref mq2, .ref mq3, .ref mq4, .ref mq5, .int m_pieceCount, .int m_orderCount, .int m_pairs, .int m_worthSum, .int m_upToDate])), (mq1, .inl (cI, 100, .inl m_gains)), (mq2, .inl (cI, 11264, .inl m_best)), (mq3, .inl (cI, 10, .inl m_chosen)), (mq4, .inl (cI, 10, .inl m_pieceDuals)), (mq5, .inl (cI, 10, .inl m_orderDuals))] t.heap ∧ va_K (dC, dI) classes [(cI, .int)] t ∧ va_D (va_A [(sq, .inr (4, [.ref pq, .ref oq, .ref sq3, .ref sq4, .ref uq, .ref hq, .ref mq, .int s_today, .int s_cutOff, .int s_agingOff, .int s_saleAge])), (pq, .inr (0, [.ref pq1, .ref pq2, .ref pq3, .ref pq4, .int p_count])), (pq1, .inl (cI, 10, .inl p_thicks)), (pq2, .inl (cI, 10, .inl p_wides)), (pq3, .inl (cI, 10, .inl p_lengths)), (pq4, .inl (cI, 10, .inl p_grades)), (oq, .inr (0, [.ref oq1, .ref oq2, .ref oq3, .ref oq4, .int o_count])), (oq1, .inl (cI, 10, .inl o_thicks)), (oq2, .inl (cI, 10, .inl o_wides)), (oq3, .inl (cI, 10, .inl o_lengths)), (oq4, .inl (cI, 10, .inl o_grades)), (sq3, .inl (cI, 10, .inl s_cameOn)), (sq4, .inl (cI, 100, .inl s_told)), (uq, .inr (1, [.ref uq1, .int u_usedOrders])), (uq1, .inl (cI, 10, .inl u_ordersOfPiece)), (hq, .inr (2, [.ref hq1, .ref hq2, .int h_heldOrders])), (hq1, .inl (cI, 10, .inl h_orderOfPiece)), (hq2, .inl (cI, 10, .inl h_lastDay)), (mq, .inr (3, [.ref mq1, .ref mq2, .ref mq3, .ref mq4, .ref mq5, .int m_pieceCount, .int m_orderCount, .int m_pairs, .int m_worthSum, .int m_upToDate])), (mq1, .inl (cI, 100, .inl m_gains)), (mq2, .inl (cI, 11264, .inl m_best)), (mq3, .inl (cI, 10, .inl m_chosen)), (mq4, .inl (cI, 10, .inl m_pieceDuals)), (mq5, .inl (cI, 10, .inl m_orderDuals))] sz) [(sq, .inr (4, [.ref pq, .ref oq, .ref sq3, .ref sq4, .ref uq, .ref hq, .ref mq, .int s_today, .int s_cutOff, .int s_agingOff, .int s_saleAge])), (pq, .inr (0, [.ref pq1, .ref pq2, .ref pq3, .ref pq4, .int p_count])), (pq1, .inl (cI, 10, .inl p_thicks)), (pq2, .inl (cI, 10, .inl p_wides)), (pq3, .inl (cI, 10, .inl p_lengths)), (pq4, .inl (cI, 10, .inl p_grades)), (oq, .inr (0, [.ref oq1, .ref oq2, .ref oq3, .ref oq4, .int o_count])), (oq1, .inl (cI, 10, .inl o_thicks)), (oq2, .inl (cI, 10, .inl o_wides)), (oq3, .inl (cI, 10, .inl o_lengths)), (oq4, .inl (cI, 10, .inl o_grades)), (sq3, .inl (cI, 10, .inl s_cameOn)), (sq4, .inl (cI, 100, .inl s_told)), (uq, .inr (1, [.ref uq1, .int u_usedOrders])), (uq1, .inl (cI, 10, .inl u_ordersOfPiece)), (hq, .inr (2, [.ref hq1, .ref hq2, .int res.2.2])), (hq1, .inl (cI, 10, .inl res.1)), (hq2, .inl (cI, 10, .inl res.2.1)), (mq, .inr (3, [.ref mq1, .ref mq2, .ref mq3, .ref mq4, .ref mq5, .int m_pieceCount, .int m_orderCount, .int m_pairs, .int m_worthSum, .int m_upToDate])), (mq1, .inl (cI, 100, .inl m_gains)), (mq2, .inl (cI, 11264, .inl m_best)), (mq3, .inl (cI, 10, .inl m_chosen)), (mq4, .inl (cI, 10, .inl m_pieceDuals)), (mq5, .inl (cI, 10, .inl m_orderDuals))]) (va_A [(sq, .inr (4, [.ref pq, .ref oq, .ref sq3, .ref sq4, .ref uq, .ref hq, .ref mq, .int s_today, .int s_cutOff, .int s_agingOff, .int s_saleAge])), (pq, .inr (0, [.ref pq1, .ref pq2, .ref pq3, .ref pq4, .int p_count])), (pq1, .inl (cI, 10, .inl p_thicks)), (pq2, .inl (cI, 10, .inl p_wides)), (pq3, .inl (cI, 10, .inl p_lengths)), (pq4, .inl (cI, 10, .inl p_grades)), (oq, .inr (0, [.ref oq1, .ref oq2, .ref oq3, .ref oq4, .int o_count])), (oq1, .inl (cI, 10, .inl o_thicks)), (oq2, .inl (cI, 10, .inl o_wides)), (oq3, .inl (cI, 10, .inl o_lengths)), (oq4, .inl (cI, 10, .inl o_grades)), (sq3, .inl (cI, 10, .inl s_cameOn)), (sq4, .inl (cI, 100, .inl s_told)), (uq, .inr (1, [.ref uq1, .int u_usedOrders])), (uq1, .inl (cI, 10, .inl u_ordersOfPiece)), (hq, .inr (2, [.ref hq1, .ref hq2, .int h_heldOrders])), (hq1, .inl (cI, 10, .inl h_orderOfPiece)), (hq2, .inl (cI, 10, .inl h_lastDay)), (mq, .inr (3, [.ref mq1, .ref mq2, .ref mq3, .ref mq4, .ref mq5, .int m_pieceCount, .int m_orderCount, .int m_pairs, .int m_worthSum, .int m_upToDate])), (mq1, .inl (cI, 100, .inl m_gains)), (mq2, .inl (cI, 11264, .inl m_best)), (mq3, .inl (cI, 10, .inl m_chosen)), (mq4, .inl (cI, 10, .inl m_pieceDuals)), (mq5, .inl (cI, 10, .inl m_orderDuals))] sz)) 0 0 (va_A [(sq, .inr (4, [.ref pq, .ref oq, .ref sq3, .ref sq4, .ref uq, .ref hq, .ref mq, .int s_today, .int s_cutOff, .int s_agingOff, .int s_saleAge])), (pq, .inr (0, [.ref pq1, .ref pq2, .ref pq3, .ref pq4, .int p_count])), (pq1, .inl (cI, 10, .inl p_thicks)), (pq2, .inl (cI, 10, .inl p_wides)), (pq3, .inl (cI, 10, .inl p_lengths)), (pq4, .inl (cI, 10, .inl p_grades)), (oq, .inr (0, [.ref oq1, .ref oq2, .ref oq3, .ref oq4, .int o_count])), (oq1, .inl (cI, 10, .inl o_thicks)), (oq2, .inl (cI, 10, .inl o_wides)), (oq3, .inl (cI, 10, .inl o_lengths)), (oq4, .inl (cI, 10, .inl o_grades)), (sq3, .inl (cI, 10, .inl s_cameOn)), (sq4, .inl (cI, 100, .inl s_told)), (uq, .inr (1, [.ref uq1, .int u_usedOrders])), (uq1, .inl (cI, 10, .inl u_ordersOfPiece)), (hq, .inr (2, [.ref hq1, .ref hq2, .int h_heldOrders])), (hq1, .inl (cI, 10, .inl h_orderOfPiece)), (hq2, .inl (cI, 10, .inl h_lastDay)), (mq, .inr (3, [.ref mq1, .ref mq2, .ref mq3, .ref mq4, .ref mq5, .int m_pieceCount, .int m_orderCount, .int m_pairs, .int m_worthSum, .int m_upToDate])), (mq1, .inl (cI, 100, .inl m_gains)), (mq2, .inl (cI, 11264, .inl m_best)), (mq3, .inl (cI, 10, .inl m_chosen)), (mq4, .inl (cI, 10, .inl m_pieceDuals)), (mq5, .inl (cI, 10, .inl m_orderDuals))] sz) := by
  unfold m_S_reserve at hm
  refine Met.ofW (cc := b_S_reserve) (maxL := 4) (ret := none) (by decide) rfl ?_
  intro p e s m args below meth c s₁ B hml hv
  obtain ⟨rfl, hsz, hP, hK, hD0, hN⟩ := hv
  have hx := B.exec
  have hb := B.bytes
  have hr := B.returns
  have hts := atoms_spec (ws := w_S_reserve) B.pre
  have hown : s.vm.findClass R_S = some m.cls := findClass_of_methodNamed B.named
  have hlocks := B.notSynchronized
  subst hsz
  have hD := hD0.self (sz := s.heap.size)
  generalize hAe : va_A [(sq, .inr (4, [.ref pq, .ref oq, .ref sq3, .ref sq4, .ref uq, .ref hq, .ref mq, .int s_today, .int s_cutOff, .int s_agingOff, .int s_saleAge])), (pq, .inr (0, [.ref pq1, .ref pq2, .ref pq3, .ref pq4, .int p_count])), (pq1, .inl (cI, 10, .inl p_thicks)), (pq2, .inl (cI, 10, .inl p_wides)), (pq3, .inl (cI, 10, .inl p_lengths)), (pq4, .inl (cI, 10, .inl p_grades)), (oq, .inr (0, [.ref oq1, .ref oq2, .ref oq3, .ref oq4, .int o_count])), (oq1, .inl (cI, 10, .inl o_thicks)), (oq2, .inl (cI, 10, .inl o_wides)), (oq3, .inl (cI, 10, .inl o_lengths)), (oq4, .inl (cI, 10, .inl o_grades)), (sq3, .inl (cI, 10, .inl s_cameOn)), (sq4, .inl (cI, 100, .inl s_told)), (uq, .inr (1, [.ref uq1, .int u_usedOrders])), (uq1, .inl (cI, 10, .inl u_ordersOfPiece)), (hq, .inr (2, [.ref hq1, .ref hq2, .int h_heldOrders])), (hq1, .inl (cI, 10, .inl h_orderOfPiece)), (hq2, .inl (cI, 10, .inl h_lastDay)), (mq, .inr (3, [.ref mq1, .ref mq2, .ref mq3, .ref mq4, .ref mq5, .int m_pieceCount, .int m_orderCount, .int m_pairs, .int m_worthSum, .int m_upToDate])), (mq1, .inl (cI, 100, .inl m_gains)), (mq2, .inl (cI, 11264, .inl m_best)), (mq3, .inl (cI, 10, .inl m_chosen)), (mq4, .inl (cI, 10, .inl m_pieceDuals)), (mq5, .inl (cI, 10, .inl m_orderDuals))] s.heap.size = A at hD ⊢
  have hA : ∀ q : Nat, s.heap.size ≤ q → A q := fun q h => by rw [← hAe]; exact Or.inr h
  have hS : va_S A s.heap s.heap [] := va_S.rf
  have hk0 := hts (.fieldLink R_S 29 "SurplusMatch" "uses" "LSurplusMatch$Uses;") (List.mem_cons_of_mem _ (w0 145 rfl))
  have hk1 : ∀ w ∈ w_S, w ∈ w_S_reserve := fun w h => List.mem_cons_of_mem _ (i_S w h)
  have hk2 := hts (.fieldLink R_S 36 "SurplusMatch" "holds" "LSurplusMatch$Holds;") (List.mem_cons_of_mem _ (w0 146 rfl))
  have hk3 := hts (.fieldLink R_S 62 "SurplusMatch" "today" "I") (List.mem_cons_of_mem _ (w0 148 rfl))
  have hl := lv_entry ([.ref sq, .int x1, .int x2, .int x3]) (n := 4) (Nat.le_of_ble_eq_true rfl)
  rw [lg_entry_eq]
  generalize (lg_sl ([.ref sq, .int x1, .int x2, .int x3]) ++ List.replicate (4 - (lg_sl ([.ref sq, .int x1, .int x2, .int x3])).length) Slot.unset).toArray = ls at hl ⊢
  have hl : lv_has ls 4 [(0, .ref sq), (1, .int x1), (2, .int x2), (3, .int x3)] := hl
  refine lv_aload_n hx hb d_S_reserve_0 rfl (lv_at hl 0 rfl) ?_
  refine lv_iload_n hx hb d_S_reserve_1 rfl (lv_at hl 1 rfl) ?_
  refine lv_iload_n hx hb d_S_reserve_2 rfl (lv_at hl 2 rfl) ?_
  obtain ⟨z9, hc, hm⟩ := bd hm
  rcases z9 with k9 | ⟨⟩
  · dsimp only [tk] at hm
    cases hm
  · dsimp only [tk] at hm
    refine va_csv (W.runV (As := [.int x1, .int x2]) (rest := []) ⟨hx, hb, hml, hown, hts⟩ (c_S_refuseUnknownPair l dC dI cI sq pq pq1 pq2 pq3 pq4 oq oq1 oq2 oq3 oq4 sq3 sq4 uq uq1 hq hq1 hq2 mq mq1 mq2 mq3 mq4 mq5 p_thicks p_wides p_lengths p_grades p_count o_thicks o_wides o_lengths o_grades o_count s_cameOn s_told u_ordersOfPiece u_usedOrders h_orderOfPiece h_lastDay h_heldOrders m_gains m_best m_chosen m_pieceDuals m_orderDuals m_pieceCount m_orderCount m_pairs m_worthSum m_upToDate s_today s_cutOff s_agingOff s_saleAge x1 x2 N () hc) (cwV 2 hts (gV (w0 403 rfl) (w0 404 rfl) (w0 11 rfl) (w0 28 rfl) (w0 405 rfl)) rfl rfl rfl q_S_refuseUnknownPair ⟨Nat.le_of_ble_eq_true rfl, Nat.le_of_ble_eq_true rfl⟩) (ro_preV [0, 1, 2, 3, 4, 5, 6, 7, 8, 9, 10, 11, 12, 13, 14, 15, 16, 17, 18, 19, 20, 21, 22, 23] rfl hK hP hN 4 0 (R_S, F_S, 11) rfl rfl) rfl rfl hl.1 rfl (lv_room (Nat.le_of_ble_eq_true rfl)) d_S_reserve_3 ⟨Nat.le_of_ble_eq_true rfl, Nat.le_of_ble_eq_true rfl⟩) (fun _ => ?_)
    refine lv_aload_n hx hb d_S_reserve_6 rfl (lv_at hl 0 rfl) ?_
    refine va_get (D := (dC, dI)) (ci := 4) (v := .ref uq) (C := R_S) (T := F_S) (N := 11) hx hb hts hk1 hown hK hP 0 rfl rfl 4 (by decide) hk0 (fun _ h9 => h9) rfl d_S_reserve_7 ?_
    refine lv_iload_n hx hb d_S_reserve_10 rfl (lv_at hl 1 rfl) ?_
    obtain ⟨r2, hc, hm⟩ := bd hm
    try dsimp only at hm
    refine vp_callSi (W.runV (As := [.int x1]) (rest := []) ⟨hx, hb, hml, hown, hts⟩ (c_U_isPieceUsed l dC dI cI uq uq1 u_ordersOfPiece u_usedOrders x1 N r2 hc) (cwV 1 hts (gV (w0 193 rfl) (w0 194 rfl) (w0 195 rfl) (w0 30 rfl) (w0 196 rfl)) rfl rfl rfl q_U_isPieceUsed ⟨Nat.le_of_ble_eq_true rfl, Nat.le_of_ble_eq_true rfl⟩) (ro_preV [13, 14] rfl hK hP hN 1 0 (R_U, F_U, 2) rfl rfl) rfl rfl hl.1 rfl (lv_room (Nat.le_of_ble_eq_true rfl)) d_S_reserve_11 ⟨Nat.le_of_ble_eq_true rfl, Nat.le_of_ble_eq_true rfl⟩) (fun r9 hr9 => ?_)
    subst hr9
    refine lv_if_ne (tgt := 28) hx hb d_S_reserve_14 (by decide) (fun c9 => ?_) (fun c9 => ?_)
    · replace hm := if_f c9 hm
      cases hm
    · replace hm := if_t c9 hm
      refine lv_aload_n hx hb d_S_reserve_17 rfl (lv_at hl 0 rfl) ?_
      refine va_get (D := (dC, dI)) (ci := 4) (v := .ref uq) (C := R_S) (T := F_S) (N := 11) hx hb hts hk1 hown hK hP 0 rfl rfl 4 (by decide) hk0 (fun _ h9 => h9) rfl d_S_reserve_18 ?_
      refine lv_iload_n hx hb d_S_reserve_21 rfl (lv_at hl 2 rfl) ?_
      obtain ⟨r3, hc, hm⟩ := bd hm
      try dsimp only at hm
      refine vp_callSi (W.runV (As := [.int x2]) (rest := []) ⟨hx, hb, hml, hown, hts⟩ (c_U_isOrderUsed l dC dI cI uq uq1 u_ordersOfPiece u_usedOrders x2 N r3 hc) (cwV 1 hts (gV (w0 197 rfl) (w0 198 rfl) (w0 199 rfl) (w0 30 rfl) (w0 200 rfl)) rfl rfl rfl q_U_isOrderUsed ⟨Nat.le_of_ble_eq_true rfl, Nat.le_of_ble_eq_true rfl⟩) (ro_preV [13, 14] rfl hK hP hN 1 0 (R_U, F_U, 2) rfl rfl) rfl rfl hl.1 rfl (lv_room (Nat.le_of_ble_eq_true rfl)) d_S_reserve_22 ⟨Nat.le_of_ble_eq_true rfl, Nat.le_of_ble_eq_true rfl⟩) (fun r9 hr9 => ?_)
      subst hr9
      refine lv_if_eq (tgt := 38) hx hb d_S_reserve_25 (by decide) (fun c9 => ?_) (fun c9 => ?_)
      · replace hm := if_t c9 hm
        refine lv_aload_n hx hb d_S_reserve_38 rfl (lv_at hl 0 rfl) ?_
        refine va_get (D := (dC, dI)) (ci := 4) (v := .ref hq) (C := R_S) (T := F_S) (N := 11) hx hb hts hk1 hown hK hP 0 rfl rfl 5 (by decide) hk2 (fun _ h9 => h9) rfl d_S_reserve_39 ?_
        refine lv_iload_n hx hb d_S_reserve_42 rfl (lv_at hl 1 rfl) ?_
        obtain ⟨r4, hc, hm⟩ := bd hm
        try dsimp only at hm
        refine vp_callSi (W.runV (As := [.int x1]) (rest := []) ⟨hx, hb, hml, hown, hts⟩ (c_H_isPieceHeld l dC dI cI hq hq1 hq2 h_orderOfPiece h_lastDay h_heldOrders x1 N r4 hc) (cwV 1 hts (gV (w0 493 rfl) (w0 206 rfl) (w0 207 rfl) (w0 31 rfl) (w0 208 rfl)) rfl rfl rfl q_H_isPieceHeld ⟨Nat.le_of_ble_eq_true rfl, Nat.le_of_ble_eq_true rfl⟩) (ro_preV [15, 16, 17] rfl hK hP hN 2 0 (R_H, F_H, 3) rfl rfl) rfl rfl hl.1 rfl (lv_room (Nat.le_of_ble_eq_true rfl)) d_S_reserve_43 ⟨Nat.le_of_ble_eq_true rfl, Nat.le_of_ble_eq_true rfl⟩) (fun r9 hr9 => ?_)
        subst hr9
        refine lv_if_ne (tgt := 60) hx hb d_S_reserve_46 (by decide) (fun c9 => ?_) (fun c9 => ?_)
        · replace hm := if_f c9 hm
          cases hm
        · replace hm := if_t c9 hm
          refine lv_aload_n hx hb d_S_reserve_49 rfl (lv_at hl 0 rfl) ?_
          refine va_get (D := (dC, dI)) (ci := 4) (v := .ref hq) (C := R_S) (T := F_S) (N := 11) hx hb hts hk1 hown hK hP 0 rfl rfl 5 (by decide) hk2 (fun _ h9 => h9) rfl d_S_reserve_50 ?_
          refine lv_iload_n hx hb d_S_reserve_53 rfl (lv_at hl 2 rfl) ?_
          obtain ⟨r5, hc, hm⟩ := bd hm
          try dsimp only at hm
          refine vp_callSi (W.runV (As := [.int x2]) (rest := []) ⟨hx, hb, hml, hown, hts⟩ (c_H_isOrderHeld l dC dI cI hq hq1 hq2 h_orderOfPiece h_lastDay h_heldOrders x2 N r5 hc) (cwV 1 hts (gV (w0 538 rfl) (w0 210 rfl) (w0 211 rfl) (w0 31 rfl) (w0 212 rfl)) rfl rfl rfl q_H_isOrderHeld ⟨Nat.le_of_ble_eq_true rfl, Nat.le_of_ble_eq_true rfl⟩) (ro_preV [15, 16, 17] rfl hK hP hN 2 0 (R_H, F_H, 3) rfl rfl) rfl rfl hl.1 rfl (lv_room (Nat.le_of_ble_eq_true rfl)) d_S_reserve_54 ⟨Nat.le_of_ble_eq_true rfl, Nat.le_of_ble_eq_true rfl⟩) (fun r9 hr9 => ?_)
          subst hr9
          refine lv_if_eq (tgt := 70) hx hb d_S_reserve_57 (by decide) (fun c9 => ?_) (fun c9 => ?_)
          · replace hm := if_t c9 hm
            refine lv_iload_n hx hb d_S_reserve_70 rfl (lv_at hl 3 rfl) ?_
            refine lv_aload_n hx hb d_S_reserve_71 rfl (lv_at hl 0 rfl) ?_
            refine va_get (D := (dC, dI)) (ci := 4) (v := .int s_today) (C := R_S) (T := F_S) (N := 11) hx hb hts hk1 hown hK hP 0 rfl rfl 7 (by decide) hk3 (fun _ h9 => h9) rfl d_S_reserve_72 ?_
            refine lv_sipush (v := 9999) hx hb d_S_reserve_75 (by decide) ?_
            obtain ⟨r6, hc, hm⟩ := bd hm
            try dsimp only at hm
            refine vp_callSi (W.runS (As := [.int x3, .int s_today, .int 9999]) (rest := []) ⟨hx, hb, hml, hown, hts⟩ (c_S_isWithin l dC dI cI x3 s_today 9999 N r6 hc) (cwS 3 hts (gS (w0 301 rfl) (w0 302 rfl) (w0 28 rfl) (w0 303 rfl)) rfl rfl rfl q_S_isWithin ⟨Nat.le_of_ble_eq_true rfl, Nat.le_of_ble_eq_true rfl⟩) ro_pre0 rfl rfl hl.1 rfl (lv_room (Nat.le_of_ble_eq_true rfl)) d_S_reserve_78 ⟨Nat.le_of_ble_eq_true rfl, Nat.le_of_ble_eq_true rfl⟩) (fun r9 hr9 => ?_)
            subst hr9
            refine lv_if_ne (tgt := 94) hx hb d_S_reserve_81 (by decide) (fun c9 => ?_) (fun c9 => ?_)
            · replace hm := if_f c9 hm
              refine lv_aload_n hx hb d_S_reserve_94 rfl (lv_at hl 0 rfl) ?_
              refine lv_iload_n hx hb d_S_reserve_95 rfl (lv_at hl 1 rfl) ?_
              refine lv_iload_n hx hb d_S_reserve_96 rfl (lv_at hl 2 rfl) ?_
              obtain ⟨z9, hc, hm⟩ := bd hm
              rcases z9 with k9 | ⟨⟩
              · dsimp only [tk] at hm
                cases hm
              · dsimp only [tk] at hm
                refine va_csv (W.runV (As := [.int x1, .int x2]) (rest := []) ⟨hx, hb, hml, hown, hts⟩ (c_S_refuseMisfit l dC dI cI sq pq pq1 pq2 pq3 pq4 oq oq1 oq2 oq3 oq4 sq3 sq4 uq uq1 hq hq1 hq2 mq mq1 mq2 mq3 mq4 mq5 p_thicks p_wides p_lengths p_grades p_count o_thicks o_wides o_lengths o_grades o_count s_cameOn s_told u_ordersOfPiece u_usedOrders h_orderOfPiece h_lastDay h_heldOrders m_gains m_best m_chosen m_pieceDuals m_orderDuals m_pieceCount m_orderCount m_pairs m_worthSum m_upToDate s_today s_cutOff s_agingOff s_saleAge x1 x2 N () hc) (cwV 2 hts (gV (w0 428 rfl) (w0 429 rfl) (w0 13 rfl) (w0 28 rfl) (w0 430 rfl)) rfl rfl rfl q_S_refuseMisfit ⟨Nat.le_of_ble_eq_true rfl, Nat.le_of_ble_eq_true rfl⟩) (ro_preV [0, 1, 2, 3, 4, 5, 6, 7, 8, 9, 10, 11, 12, 13, 14, 15, 16, 17, 18, 19, 20, 21, 22, 23] rfl hK hP hN 4 0 (R_S, F_S, 11) rfl rfl) rfl rfl hl.1 rfl (lv_room (Nat.le_of_ble_eq_true rfl)) d_S_reserve_97 ⟨Nat.le_of_ble_eq_true rfl, Nat.le_of_ble_eq_true rfl⟩) (fun _ => ?_)
                refine lv_aload_n hx hb d_S_reserve_100 rfl (lv_at hl 0 rfl) ?_
                refine va_get (D := (dC, dI)) (ci := 4) (v := .ref hq) (C := R_S) (T := F_S) (N := 11) hx hb hts hk1 hown hK hP 0 rfl rfl 5 (by decide) hk2 (fun _ h9 => h9) rfl d_S_reserve_101 ?_
                refine lv_iload_n hx hb d_S_reserve_104 rfl (lv_at hl 1 rfl) ?_
                refine lv_iload_n hx hb d_S_reserve_105 rfl (lv_at hl 2 rfl) ?_
                refine lv_iload_n hx hb d_S_reserve_106 rfl (lv_at hl 3 rfl) ?_
                obtain ⟨⟨u9, u10, u11⟩, hc, hm⟩ := bd hm
                try dsimp only at hm
                have hPc := hP.sub (ws' := [(hq, .inr (2, [.ref hq1, .ref hq2, .int h_heldOrders])), (hq1, .inl (cI, 10, .inl h_orderOfPiece)), (hq2, .inl (cI, 10, .inl h_lastDay))]) [15, 16, 17] rfl
                have hDc := hD.sub (ws' := [(hq, .inr (2, [.ref hq1, .ref hq2, .int h_heldOrders])), (hq1, .inl (cI, 10, .inl h_orderOfPiece)), (hq2, .inl (cI, 10, .inl h_lastDay))]) [15, 16, 17] (by decide) rfl
                have hFc := va_free (wc := [(hq, .inr (2, [.ref hq1, .ref hq2, .int h_heldOrders])), (hq1, .inl (cI, 10, .inl h_orderOfPiece)), (hq2, .inl (cI, 10, .inl h_lastDay))]) hD hS hA [15, 16, 17] rfl
                refine va_callv (va_runV (As := [.int x1, .int x2, .int x3]) (rest := []) ⟨hx, hb, hml, hown, hts⟩ (c_H_hold l dC dI cI hq hq1 hq2 s.heap.size h_orderOfPiece h_lastDay h_heldOrders x1 x2 x3 N (u9, u10, u11) hc) (cwV 3 hts (gV (w0 539 rfl) (w0 540 rfl) (w0 541 rfl) (w0 31 rfl) (w0 542 rfl)) rfl rfl rfl q_H_hold ⟨Nat.le_of_ble_eq_true rfl, Nat.le_of_ble_eq_true rfl⟩) (wr_preV hK hPc hDc hN 2 0 (R_H, F_H, 3) rfl rfl) rfl rfl hl.1 rfl (lv_room (Nat.le_of_ble_eq_true rfl)) d_S_reserve_107 ⟨Nat.le_of_ble_eq_true rfl, Nat.le_of_ble_eq_true rfl⟩) hS (fun q _ h => hFc q h) hFc (fun u t H1 locs ht hvm hw hB hz1 hk1 hS => ?_)
                obtain ⟨hP1, hK1, hD1⟩ := hB
                rw [ht] at hP1
                obtain ⟨hP, hD⟩ := va_join (wr := [(sq, .inr (4, [.ref pq, .ref oq, .ref sq3, .ref sq4, .ref uq, .ref hq, .ref mq, .int s_today, .int s_cutOff, .int s_agingOff, .int s_saleAge])), (pq, .inr (0, [.ref pq1, .ref pq2, .ref pq3, .ref pq4, .int p_count])), (pq1, .inl (cI, 10, .inl p_thicks)), (pq2, .inl (cI, 10, .inl p_wides)), (pq3, .inl (cI, 10, .inl p_lengths)), (pq4, .inl (cI, 10, .inl p_grades)), (oq, .inr (0, [.ref oq1, .ref oq2, .ref oq3, .ref oq4, .int o_count])), (oq1, .inl (cI, 10, .inl o_thicks)), (oq2, .inl (cI, 10, .inl o_wides)), (oq3, .inl (cI, 10, .inl o_lengths)), (oq4, .inl (cI, 10, .inl o_grades)), (sq3, .inl (cI, 10, .inl s_cameOn)), (sq4, .inl (cI, 100, .inl s_told)), (uq, .inr (1, [.ref uq1, .int u_usedOrders])), (uq1, .inl (cI, 10, .inl u_ordersOfPiece)), (mq, .inr (3, [.ref mq1, .ref mq2, .ref mq3, .ref mq4, .ref mq5, .int m_pieceCount, .int m_orderCount, .int m_pairs, .int m_worthSum, .int m_upToDate])), (mq1, .inl (cI, 100, .inl m_gains)), (mq2, .inl (cI, 11264, .inl m_best)), (mq3, .inl (cI, 10, .inl m_chosen)), (mq4, .inl (cI, 10, .inl m_pieceDuals)), (mq5, .inl (cI, 10, .inl m_orderDuals))]) (w1 := [(hq, .inr (2, [.ref hq1, .ref hq2, .int u11])), (hq1, .inl (cI, 10, .inl u9)), (hq2, .inl (cI, 10, .inl u10))]) hP hD [15, 16, 17] [0, 1, 2, 3, 4, 5, 6, 7, 8, 9, 10, 11, 12, 13, 14, 18, 19, 20, 21, 22, 23] rfl rfl (by decide) (by decide) hk1 hFc hP1 hD1
                generalize H1 = H at hP hS ⊢
                have hP : va_P (dC, dI) classes [(sq, .inr (4, [.ref pq, .ref oq, .ref sq3, .ref sq4, .ref uq, .ref hq, .ref mq, .int s_today, .int s_cutOff, .int s_agingOff, .int s_saleAge])), (pq, .inr (0, [.ref pq1, .ref pq2, .ref pq3, .ref pq4, .int p_count])), (pq1, .inl (cI, 10, .inl p_thicks)), (pq2, .inl (cI, 10, .inl p_wides)), (pq3, .inl (cI, 10, .inl p_lengths)), (pq4, .inl (cI, 10, .inl p_grades)), (oq, .inr (0, [.ref oq1, .ref oq2, .ref oq3, .ref oq4, .int o_count])), (oq1, .inl (cI, 10, .inl o_thicks)), (oq2, .inl (cI, 10, .inl o_wides)), (oq3, .inl (cI, 10, .inl o_lengths)), (oq4, .inl (cI, 10, .inl o_grades)), (sq3, .inl (cI, 10, .inl s_cameOn)), (sq4, .inl (cI, 100, .inl s_told)), (uq, .inr (1, [.ref uq1, .int u_usedOrders])), (uq1, .inl (cI, 10, .inl u_ordersOfPiece)), (mq, .inr (3, [.ref mq1, .ref mq2, .ref mq3, .ref mq4, .ref mq5, .int m_pieceCount, .int m_orderCount, .int m_pairs, .int m_worthSum, .int m_upToDate])), (mq1, .inl (cI, 100, .inl m_gains)), (mq2, .inl (cI, 11264, .inl m_best)), (mq3, .inl (cI, 10, .inl m_chosen)), (mq4, .inl (cI, 10, .inl m_pieceDuals)), (mq5, .inl (cI, 10, .inl m_orderDuals)), (hq, .inr (2, [.ref hq1, .ref hq2, .int u11])), (hq1, .inl (cI, 10, .inl u9)), (hq2, .inl (cI, 10, .inl u10))] H := hP
                have hD : va_D A [(sq, .inr (4, [.ref pq, .ref oq, .ref sq3, .ref sq4, .ref uq, .ref hq, .ref mq, .int s_today, .int s_cutOff, .int s_agingOff, .int s_saleAge])), (pq, .inr (0, [.ref pq1, .ref pq2, .ref pq3, .ref pq4, .int p_count])), (pq1, .inl (cI, 10, .inl p_thicks)), (pq2, .inl (cI, 10, .inl p_wides)), (pq3, .inl (cI, 10, .inl p_lengths)), (pq4, .inl (cI, 10, .inl p_grades)), (oq, .inr (0, [.ref oq1, .ref oq2, .ref oq3, .ref oq4, .int o_count])), (oq1, .inl (cI, 10, .inl o_thicks)), (oq2, .inl (cI, 10, .inl o_wides)), (oq3, .inl (cI, 10, .inl o_lengths)), (oq4, .inl (cI, 10, .inl o_grades)), (sq3, .inl (cI, 10, .inl s_cameOn)), (sq4, .inl (cI, 100, .inl s_told)), (uq, .inr (1, [.ref uq1, .int u_usedOrders])), (uq1, .inl (cI, 10, .inl u_ordersOfPiece)), (mq, .inr (3, [.ref mq1, .ref mq2, .ref mq3, .ref mq4, .ref mq5, .int m_pieceCount, .int m_orderCount, .int m_pairs, .int m_worthSum, .int m_upToDate])), (mq1, .inl (cI, 100, .inl m_gains)), (mq2, .inl (cI, 11264, .inl m_best)), (mq3, .inl (cI, 10, .inl m_chosen)), (mq4, .inl (cI, 10, .inl m_pieceDuals)), (mq5, .inl (cI, 10, .inl m_orderDuals)), (hq, .inr (2, [.ref hq1, .ref hq2, .int u11])), (hq1, .inl (cI, 10, .inl u9)), (hq2, .inl (cI, 10, .inl u10))] := hD
                clear hP1 hD1 hPc hDc hFc hk1 hz1
                cases hm
                have hP := hP.sub (ws' := [(sq, .inr (4, [.ref pq, .ref oq, .ref sq3, .ref sq4, .ref uq, .ref hq, .ref mq, .int s_today, .int s_cutOff, .int s_agingOff, .int s_saleAge])), (pq, .inr (0, [.ref pq1, .ref pq2, .ref pq3, .ref pq4, .int p_count])), (pq1, .inl (cI, 10, .inl p_thicks)), (pq2, .inl (cI, 10, .inl p_wides)), (pq3, .inl (cI, 10, .inl p_lengths)), (pq4, .inl (cI, 10, .inl p_grades)), (oq, .inr (0, [.ref oq1, .ref oq2, .ref oq3, .ref oq4, .int o_count])), (oq1, .inl (cI, 10, .inl o_thicks)), (oq2, .inl (cI, 10, .inl o_wides)), (oq3, .inl (cI, 10, .inl o_lengths)), (oq4, .inl (cI, 10, .inl o_grades)), (sq3, .inl (cI, 10, .inl s_cameOn)), (sq4, .inl (cI, 100, .inl s_told)), (uq, .inr (1, [.ref uq1, .int u_usedOrders])), (uq1, .inl (cI, 10, .inl u_ordersOfPiece)), (hq, .inr (2, [.ref hq1, .ref hq2, .int u11])), (hq1, .inl (cI, 10, .inl u9)), (hq2, .inl (cI, 10, .inl u10)), (mq, .inr (3, [.ref mq1, .ref mq2, .ref mq3, .ref mq4, .ref mq5, .int m_pieceCount, .int m_orderCount, .int m_pairs, .int m_worthSum, .int m_upToDate])), (mq1, .inl (cI, 100, .inl m_gains)), (mq2, .inl (cI, 11264, .inl m_best)), (mq3, .inl (cI, 10, .inl m_chosen)), (mq4, .inl (cI, 10, .inl m_pieceDuals)), (mq5, .inl (cI, 10, .inl m_orderDuals))]) [0, 1, 2, 3, 4, 5, 6, 7, 8, 9, 10, 11, 12, 13, 14, 21, 22, 23, 15, 16, 17, 18, 19, 20] rfl
                have hD := hD.sub (ws' := [(sq, .inr (4, [.ref pq, .ref oq, .ref sq3, .ref sq4, .ref uq, .ref hq, .ref mq, .int s_today, .int s_cutOff, .int s_agingOff, .int s_saleAge])), (pq, .inr (0, [.ref pq1, .ref pq2, .ref pq3, .ref pq4, .int p_count])), (pq1, .inl (cI, 10, .inl p_thicks)), (pq2, .inl (cI, 10, .inl p_wides)), (pq3, .inl (cI, 10, .inl p_lengths)), (pq4, .inl (cI, 10, .inl p_grades)), (oq, .inr (0, [.ref oq1, .ref oq2, .ref oq3, .ref oq4, .int o_count])), (oq1, .inl (cI, 10, .inl o_thicks)), (oq2, .inl (cI, 10, .inl o_wides)), (oq3, .inl (cI, 10, .inl o_lengths)), (oq4, .inl (cI, 10, .inl o_grades)), (sq3, .inl (cI, 10, .inl s_cameOn)), (sq4, .inl (cI, 100, .inl s_told)), (uq, .inr (1, [.ref uq1, .int u_usedOrders])), (uq1, .inl (cI, 10, .inl u_ordersOfPiece)), (hq, .inr (2, [.ref hq1, .ref hq2, .int u11])), (hq1, .inl (cI, 10, .inl u9)), (hq2, .inl (cI, 10, .inl u10)), (mq, .inr (3, [.ref mq1, .ref mq2, .ref mq3, .ref mq4, .ref mq5, .int m_pieceCount, .int m_orderCount, .int m_pairs, .int m_worthSum, .int m_upToDate])), (mq1, .inl (cI, 100, .inl m_gains)), (mq2, .inl (cI, 11264, .inl m_best)), (mq3, .inl (cI, 10, .inl m_chosen)), (mq4, .inl (cI, 10, .inl m_pieceDuals)), (mq5, .inl (cI, 10, .inl m_orderDuals))]) [0, 1, 2, 3, 4, 5, 6, 7, 8, 9, 10, 11, 12, 13, 14, 21, 22, 23, 15, 16, 17, 18, 19, 20] (by decide) rfl
                refine W.widen (k := 0) (n := 0) (Nat.le_of_ble_eq_true rfl) (Nat.le_of_ble_eq_true rfl) ?_
                exact W.vret hx hb hr (fun t ht hW => ⟨⟨(), rfl, trivial, by rw [ht]; exact hP, va_K.moved hW.alike hK, hD⟩, hS.F ht⟩) hS.2.2 d_S_reserve_110
            · replace hm := if_t c9 hm
              cases hm
          · replace hm := if_f c9 hm
            cases hm
      · replace hm := if_f c9 hm
        cases hm
set_option maxHeartbeats 4000000 in
set_option maxRecDepth 100000 in
theorem x_S_reserve (l : Launch) (dC : Nat → ClassId) (dI : Nat → Nat → Nat) (cI : ClassId) (sq pq pq1 pq2 pq3 pq4 oq oq1 oq2 oq3 oq4 sq3 sq4 uq uq1 hq hq1 hq2 mq mq1 mq2 mq3 mq4 mq5 : Nat) (sz : Nat) (p_thicks : Nat → Int32) (p_wides : Nat → Int32) (p_lengths : Nat → Int32) (p_grades : Nat → Int32) (p_count : Int32) (o_thicks : Nat → Int32) (o_wides : Nat → Int32) (o_lengths : Nat → Int32) (o_grades : Nat → Int32) (o_count : Int32) (s_cameOn : Nat → Int32) (s_told : Nat → Int32) (u_ordersOfPiece : Nat → Int32) (u_usedOrders : Int32) (h_orderOfPiece : Nat → Int32) (h_lastDay : Nat → Int32) (h_heldOrders : Int32) (m_gains : Nat → Int32) (m_best : Nat → Int32) (m_chosen : Nat → Int32) (m_pieceDuals : Nat → Int32) (m_orderDuals : Nat → Int32) (m_pieceCount : Int32) (m_orderCount : Int32) (m_pairs : Int32) (m_worthSum : Int32) (m_upToDate : Int32) (s_today : Int32) (s_cutOff : Int32) (s_agingOff : Int32) (s_saleAge : Int32) (x1 : Int32) (x2 : Int32) (x3 : Int32) (N : Nat) (k : Nat) (hst : l.stackTraces = false) (hm : m_S_reserve p_thicks p_wides p_lengths p_grades p_count o_thicks o_wides o_lengths o_grades o_count u_ordersOfPiece u_usedOrders h_orderOfPiece h_lastDay h_heldOrders s_today x1 x2 x3 = some (.inl k)) : xt_Met l y_S_reserve w_S_reserve ({ frames := 8, cells := 1, slots := 6, locals := 139 } : Room) (va_Pc [.ref sq, .int x1, .int x2, .int x3] (fun U => U.heap.size = sz ∧ va_P (dC, dI) classes [(sq, .inr (4, [.ref pq, .ref oq, .ref sq3, .ref sq4, .ref uq, .ref hq, .ref mq, .int s_today, .int s_cutOff, .int s_agingOff, .int s_saleAge])), (pq, .inr (0, [.ref pq1, .ref pq2, .ref pq3, .ref pq4, .int p_count])), (pq1, .inl (cI, 10, .inl p_thicks)), (pq2, .inl (cI, 10, .inl p_wides)), (pq3, .inl (cI, 10, .inl p_lengths)), (pq4, .inl (cI, 10, .inl p_grades)), (oq, .inr (0, [.ref oq1, .ref oq2, .ref oq3, .ref oq4, .int o_count])), (oq1, .inl (cI, 10, .inl o_thicks)), (oq2, .inl (cI, 10, .inl o_wides)), (oq3, .inl (cI, 10, .inl o_lengths)), (oq4, .inl (cI, 10, .inl o_grades)), (sq3, .inl (cI, 10, .inl s_cameOn)), (sq4, .inl (cI, 100, .inl s_told)), (uq, .inr (1, [.ref uq1, .int u_usedOrders])), (uq1, .inl (cI, 10, .inl u_ordersOfPiece)), (hq, .inr (2, [.ref hq1, .ref hq2, .int h_heldOrders])), (hq1, .inl (cI, 10, .inl h_orderOfPiece)), (hq2, .inl (cI, 10, .inl h_lastDay)), (mq, .inr (3, [.ref mq1, .ref mq2, .ref mq3, .ref mq4, .ref mq5, .int m_pieceCount, .int m_orderCount, .int m_pairs, .int m_worthSum, .int m_upToDate])), (mq1, .inl (cI, 100, .inl m_gains)), (mq2, .inl (cI, 11264, .inl m_best)), (mq3, .inl (cI, 10, .inl m_chosen)), (mq4, .inl (cI, 10, .inl m_pieceDuals)), (mq5, .inl (cI, 10, .inl m_orderDuals))] U.heap ∧ va_K (dC, dI) classes [(cI, .int)] U ∧ va_D (fun _ => True) [(sq, .inr (4, [.ref pq, .ref oq, .ref sq3, .ref sq4, .ref uq, .ref hq, .ref mq, .int s_today, .int s_cutOff, .int s_agingOff, .int s_saleAge])), (pq, .inr (0, [.ref pq1, .ref pq2, .ref pq3, .ref pq4, .int p_count])), (pq1, .inl (cI, 10, .inl p_thicks)), (pq2, .inl (cI, 10, .inl p_wides)), (pq3, .inl (cI, 10, .inl p_lengths)), (pq4, .inl (cI, 10, .inl p_grades)), (oq, .inr (0, [.ref oq1, .ref oq2, .ref oq3, .ref oq4, .int o_count])), (oq1, .inl (cI, 10, .inl o_thicks)), (oq2, .inl (cI, 10, .inl o_wides)), (oq3, .inl (cI, 10, .inl o_lengths)), (oq4, .inl (cI, 10, .inl o_grades)), (sq3, .inl (cI, 10, .inl s_cameOn)), (sq4, .inl (cI, 100, .inl s_told)), (uq, .inr (1, [.ref uq1, .int u_usedOrders])), (uq1, .inl (cI, 10, .inl u_ordersOfPiece)), (hq, .inr (2, [.ref hq1, .ref hq2, .int h_heldOrders])), (hq1, .inl (cI, 10, .inl h_orderOfPiece)), (hq2, .inl (cI, 10, .inl h_lastDay)), (mq, .inr (3, [.ref mq1, .ref mq2, .ref mq3, .ref mq4, .ref mq5, .int m_pieceCount, .int m_orderCount, .int m_pairs, .int m_worthSum, .int m_upToDate])), (mq1, .inl (cI, 100, .inl m_gains)), (mq2, .inl (cI, 11264, .inl m_best)), (mq3, .inl (cI, 10, .inl m_chosen)), (mq4, .inl (cI, 10, .inl m_pieceDuals)), (mq5, .inl (cI, 10, .inl m_orderDuals))] ∧ nw U ∧ xE xTx U U.heap)) (xn k) := by
  unfold m_S_reserve at hm
  refine xt_ofW (cc := b_S_reserve) (maxL := 4) (ret := none) (by decide) rfl ?_
  intro p e s m args below meth c s₁ B hml hout hv
  obtain ⟨rfl, hsz, hP, hK, hD0, hN, hE⟩ := hv
  have hx := B.exec
  have hb := B.bytes
  have hr := B.returns
  have hts := atoms_spec (ws := w_S_reserve) B.pre
  have hown : s.vm.findClass R_S = some m.cls := findClass_of_methodNamed B.named
  have hlocks := B.notSynchronized
  subst hsz
  have hD := hD0.self (sz := s.heap.size)
  generalize hAe : va_A [(sq, .inr (4, [.ref pq, .ref oq, .ref sq3, .ref sq4, .ref uq, .ref hq, .ref mq, .int s_today, .int s_cutOff, .int s_agingOff, .int s_saleAge])), (pq, .inr (0, [.ref pq1, .ref pq2, .ref pq3, .ref pq4, .int p_count])), (pq1, .inl (cI, 10, .inl p_thicks)), (pq2, .inl (cI, 10, .inl p_wides)), (pq3, .inl (cI, 10, .inl p_lengths)), (pq4, .inl (cI, 10, .inl p_grades)), (oq, .inr (0, [.ref oq1, .ref oq2, .ref oq3, .ref oq4, .int o_count])), (oq1, .inl (cI, 10, .inl o_thicks)), (oq2, .inl (cI, 10, .inl o_wides)), (oq3, .inl (cI, 10, .inl o_lengths)), (oq4, .inl (cI, 10, .inl o_grades)), (sq3, .inl (cI, 10, .inl s_cameOn)), (sq4, .inl (cI, 100, .inl s_told)), (uq, .inr (1, [.ref uq1, .int u_usedOrders])), (uq1, .inl (cI, 10, .inl u_ordersOfPiece)), (hq, .inr (2, [.ref hq1, .ref hq2, .int h_heldOrders])), (hq1, .inl (cI, 10, .inl h_orderOfPiece)), (hq2, .inl (cI, 10, .inl h_lastDay)), (mq, .inr (3, [.ref mq1, .ref mq2, .ref mq3, .ref mq4, .ref mq5, .int m_pieceCount, .int m_orderCount, .int m_pairs, .int m_worthSum, .int m_upToDate])), (mq1, .inl (cI, 100, .inl m_gains)), (mq2, .inl (cI, 11264, .inl m_best)), (mq3, .inl (cI, 10, .inl m_chosen)), (mq4, .inl (cI, 10, .inl m_pieceDuals)), (mq5, .inl (cI, 10, .inl m_orderDuals))] s.heap.size = A at hD
  have hA : ∀ q : Nat, s.heap.size ≤ q → A q := fun q h => by rw [← hAe]; exact Or.inr h
  have hS : va_S A s.heap s.heap [] := va_S.rf
  have hk0 := hts (.fieldLink R_S 29 "SurplusMatch" "uses" "LSurplusMatch$Uses;") (List.mem_cons_of_mem _ (w0 145 rfl))
  have hk1 : ∀ w ∈ w_S, w ∈ w_S_reserve := fun w h => List.mem_cons_of_mem _ (i_S w h)
  have hk2 := hts (.classLink R_S 145 "java/lang/IllegalStateException") (List.mem_cons_of_mem _ (w0 464 rfl))
  have hk3 := hts (.initialized "java/lang/IllegalStateException") (List.mem_cons_of_mem _ (w0 42 rfl))
  have hk4 := hts (.fieldLink R_S 36 "SurplusMatch" "holds" "LSurplusMatch$Holds;") (List.mem_cons_of_mem _ (w0 146 rfl))
  have hk5 := hts (.fieldLink R_S 62 "SurplusMatch" "today" "I") (List.mem_cons_of_mem _ (w0 148 rfl))
  have hk6 := hts (.classLink R_S 74 "java/lang/IllegalArgumentException") (List.mem_cons_of_mem _ (w0 304 rfl))
  have hk7 := hts (.initialized "java/lang/IllegalArgumentException") (List.mem_cons_of_mem _ (w0 37 rfl))
  have hl := lv_entry ([.ref sq, .int x1, .int x2, .int x3]) (n := 4) (Nat.le_of_ble_eq_true rfl)
  rw [lg_entry_eq]
  generalize (lg_sl ([.ref sq, .int x1, .int x2, .int x3]) ++ List.replicate (4 - (lg_sl ([.ref sq, .int x1, .int x2, .int x3])).length) Slot.unset).toArray = ls at hl ⊢
  have hl : lv_has ls 4 [(0, .ref sq), (1, .int x1), (2, .int x2), (3, .int x3)] := hl
  refine lv_aload_n hx hb d_S_reserve_0 rfl (lv_at hl 0 rfl) ?_
  refine lv_iload_n hx hb d_S_reserve_1 rfl (lv_at hl 1 rfl) ?_
  refine lv_iload_n hx hb d_S_reserve_2 rfl (lv_at hl 2 rfl) ?_
  obtain ⟨z9, hc, hm⟩ := bd hm
  rcases z9 with k9 | ⟨⟩
  · dsimp only [tk] at hm
    cases hm
    exact xt_runV (As := [.int x1, .int x2]) (rest := []) ⟨hx, hb, hml, hown, hts⟩ (x_S_refuseUnknownPair l dC dI cI sq pq pq1 pq2 pq3 pq4 oq oq1 oq2 oq3 oq4 sq3 sq4 uq uq1 hq hq1 hq2 mq mq1 mq2 mq3 mq4 mq5 p_thicks p_wides p_lengths p_grades p_count o_thicks o_wides o_lengths o_grades o_count s_cameOn s_told u_ordersOfPiece u_usedOrders h_orderOfPiece h_lastDay h_heldOrders m_gains m_best m_chosen m_pieceDuals m_orderDuals m_pieceCount m_orderCount m_pairs m_worthSum m_upToDate s_today s_cutOff s_agingOff s_saleAge x1 x2 N _ hst hc) (cwV 2 hts (gV (w0 403 rfl) (w0 404 rfl) (w0 11 rfl) (w0 28 rfl) (w0 405 rfl)) rfl rfl rfl q_S_refuseUnknownPair ⟨Nat.le_of_ble_eq_true rfl, Nat.le_of_ble_eq_true rfl⟩) (rx_preV [0, 1, 2, 3, 4, 5, 6, 7, 8, 9, 10, 11, 12, 13, 14, 15, 16, 17, 18, 19, 20, 21, 22, 23] rfl hK hP hN hE 4 0 (R_S, F_S, 11) rfl rfl) rfl rfl hl.1 rfl (lv_room (Nat.le_of_ble_eq_true rfl)) d_S_reserve_3 ⟨Nat.le_of_ble_eq_true rfl, Nat.le_of_ble_eq_true rfl⟩ (fun q ce H1 hce hcv hcl hz hk => xt_out hout hlocks hce hcv hcl)
  · dsimp only [tk] at hm
    refine va_csv (W.runV (As := [.int x1, .int x2]) (rest := []) ⟨hx, hb, hml, hown, hts⟩ (c_S_refuseUnknownPair l dC dI cI sq pq pq1 pq2 pq3 pq4 oq oq1 oq2 oq3 oq4 sq3 sq4 uq uq1 hq hq1 hq2 mq mq1 mq2 mq3 mq4 mq5 p_thicks p_wides p_lengths p_grades p_count o_thicks o_wides o_lengths o_grades o_count s_cameOn s_told u_ordersOfPiece u_usedOrders h_orderOfPiece h_lastDay h_heldOrders m_gains m_best m_chosen m_pieceDuals m_orderDuals m_pieceCount m_orderCount m_pairs m_worthSum m_upToDate s_today s_cutOff s_agingOff s_saleAge x1 x2 N () hc) (cwV 2 hts (gV (w0 403 rfl) (w0 404 rfl) (w0 11 rfl) (w0 28 rfl) (w0 405 rfl)) rfl rfl rfl q_S_refuseUnknownPair ⟨Nat.le_of_ble_eq_true rfl, Nat.le_of_ble_eq_true rfl⟩) (ro_preV [0, 1, 2, 3, 4, 5, 6, 7, 8, 9, 10, 11, 12, 13, 14, 15, 16, 17, 18, 19, 20, 21, 22, 23] rfl hK hP hN 4 0 (R_S, F_S, 11) rfl rfl) rfl rfl hl.1 rfl (lv_room (Nat.le_of_ble_eq_true rfl)) d_S_reserve_3 ⟨Nat.le_of_ble_eq_true rfl, Nat.le_of_ble_eq_true rfl⟩) (fun _ => ?_)
    refine lv_aload_n hx hb d_S_reserve_6 rfl (lv_at hl 0 rfl) ?_
    refine va_get (D := (dC, dI)) (ci := 4) (v := .ref uq) (C := R_S) (T := F_S) (N := 11) hx hb hts hk1 hown hK hP 0 rfl rfl 4 (by decide) hk0 (fun _ h9 => h9) rfl d_S_reserve_7 ?_
    refine lv_iload_n hx hb d_S_reserve_10 rfl (lv_at hl 1 rfl) ?_
    obtain ⟨r2, hc, hm⟩ := bd hm
    try dsimp only at hm
    refine vp_callSi (W.runV (As := [.int x1]) (rest := []) ⟨hx, hb, hml, hown, hts⟩ (c_U_isPieceUsed l dC dI cI uq uq1 u_ordersOfPiece u_usedOrders x1 N r2 hc) (cwV 1 hts (gV (w0 193 rfl) (w0 194 rfl) (w0 195 rfl) (w0 30 rfl) (w0 196 rfl)) rfl rfl rfl q_U_isPieceUsed ⟨Nat.le_of_ble_eq_true rfl, Nat.le_of_ble_eq_true rfl⟩) (ro_preV [13, 14] rfl hK hP hN 1 0 (R_U, F_U, 2) rfl rfl) rfl rfl hl.1 rfl (lv_room (Nat.le_of_ble_eq_true rfl)) d_S_reserve_11 ⟨Nat.le_of_ble_eq_true rfl, Nat.le_of_ble_eq_true rfl⟩) (fun r9 hr9 => ?_)
    subst hr9
    refine lv_if_ne (tgt := 28) hx hb d_S_reserve_14 (by decide) (fun c9 => ?_) (fun c9 => ?_)
    · replace hm := if_f c9 hm
      cases hm
      obtain ⟨sa, hsa⟩ := hE.2.2.2.2 (185, "the piece or the order is used") (List.mem_of_getElem? (i := 8) rfl)
      exact xt_throw (cls := "java/lang/IllegalStateException") (names := xnm) hx hb hst hown (by decide +kernel) xnm_fit hk2 hk3 hsa (hat_1 hts hE) (hl.1.trans hml.symm) d_S_reserve_28 d_S_reserve_31 d_S_reserve_32 d_S_reserve_34 d_S_reserve_37 hout (Nat.le_of_ble_eq_true rfl) (Nat.le_of_ble_eq_true rfl) (Nat.le_of_ble_eq_true rfl) (Nat.le_of_ble_eq_true rfl) hlocks
    · replace hm := if_t c9 hm
      refine lv_aload_n hx hb d_S_reserve_17 rfl (lv_at hl 0 rfl) ?_
      refine va_get (D := (dC, dI)) (ci := 4) (v := .ref uq) (C := R_S) (T := F_S) (N := 11) hx hb hts hk1 hown hK hP 0 rfl rfl 4 (by decide) hk0 (fun _ h9 => h9) rfl d_S_reserve_18 ?_
      refine lv_iload_n hx hb d_S_reserve_21 rfl (lv_at hl 2 rfl) ?_
      obtain ⟨r3, hc, hm⟩ := bd hm
      try dsimp only at hm
      refine vp_callSi (W.runV (As := [.int x2]) (rest := []) ⟨hx, hb, hml, hown, hts⟩ (c_U_isOrderUsed l dC dI cI uq uq1 u_ordersOfPiece u_usedOrders x2 N r3 hc) (cwV 1 hts (gV (w0 197 rfl) (w0 198 rfl) (w0 199 rfl) (w0 30 rfl) (w0 200 rfl)) rfl rfl rfl q_U_isOrderUsed ⟨Nat.le_of_ble_eq_true rfl, Nat.le_of_ble_eq_true rfl⟩) (ro_preV [13, 14] rfl hK hP hN 1 0 (R_U, F_U, 2) rfl rfl) rfl rfl hl.1 rfl (lv_room (Nat.le_of_ble_eq_true rfl)) d_S_reserve_22 ⟨Nat.le_of_ble_eq_true rfl, Nat.le_of_ble_eq_true rfl⟩) (fun r9 hr9 => ?_)
      subst hr9
      refine lv_if_eq (tgt := 38) hx hb d_S_reserve_25 (by decide) (fun c9 => ?_) (fun c9 => ?_)
      · replace hm := if_t c9 hm
        refine lv_aload_n hx hb d_S_reserve_38 rfl (lv_at hl 0 rfl) ?_
        refine va_get (D := (dC, dI)) (ci := 4) (v := .ref hq) (C := R_S) (T := F_S) (N := 11) hx hb hts hk1 hown hK hP 0 rfl rfl 5 (by decide) hk4 (fun _ h9 => h9) rfl d_S_reserve_39 ?_
        refine lv_iload_n hx hb d_S_reserve_42 rfl (lv_at hl 1 rfl) ?_
        obtain ⟨r4, hc, hm⟩ := bd hm
        try dsimp only at hm
        refine vp_callSi (W.runV (As := [.int x1]) (rest := []) ⟨hx, hb, hml, hown, hts⟩ (c_H_isPieceHeld l dC dI cI hq hq1 hq2 h_orderOfPiece h_lastDay h_heldOrders x1 N r4 hc) (cwV 1 hts (gV (w0 493 rfl) (w0 206 rfl) (w0 207 rfl) (w0 31 rfl) (w0 208 rfl)) rfl rfl rfl q_H_isPieceHeld ⟨Nat.le_of_ble_eq_true rfl, Nat.le_of_ble_eq_true rfl⟩) (ro_preV [15, 16, 17] rfl hK hP hN 2 0 (R_H, F_H, 3) rfl rfl) rfl rfl hl.1 rfl (lv_room (Nat.le_of_ble_eq_true rfl)) d_S_reserve_43 ⟨Nat.le_of_ble_eq_true rfl, Nat.le_of_ble_eq_true rfl⟩) (fun r9 hr9 => ?_)
        subst hr9
        refine lv_if_ne (tgt := 60) hx hb d_S_reserve_46 (by decide) (fun c9 => ?_) (fun c9 => ?_)
        · replace hm := if_f c9 hm
          cases hm
          obtain ⟨sa, hsa⟩ := hE.2.2.2.2 (190, "the piece or the order is reserved") (List.mem_of_getElem? (i := 9) rfl)
          exact xt_throw (cls := "java/lang/IllegalStateException") (names := xnm) hx hb hst hown (by decide +kernel) xnm_fit hk2 hk3 hsa (hat_1 hts hE) (hl.1.trans hml.symm) d_S_reserve_60 d_S_reserve_63 d_S_reserve_64 d_S_reserve_66 d_S_reserve_69 hout (Nat.le_of_ble_eq_true rfl) (Nat.le_of_ble_eq_true rfl) (Nat.le_of_ble_eq_true rfl) (Nat.le_of_ble_eq_true rfl) hlocks
        · replace hm := if_t c9 hm
          refine lv_aload_n hx hb d_S_reserve_49 rfl (lv_at hl 0 rfl) ?_
          refine va_get (D := (dC, dI)) (ci := 4) (v := .ref hq) (C := R_S) (T := F_S) (N := 11) hx hb hts hk1 hown hK hP 0 rfl rfl 5 (by decide) hk4 (fun _ h9 => h9) rfl d_S_reserve_50 ?_
          refine lv_iload_n hx hb d_S_reserve_53 rfl (lv_at hl 2 rfl) ?_
          obtain ⟨r5, hc, hm⟩ := bd hm
          try dsimp only at hm
          refine vp_callSi (W.runV (As := [.int x2]) (rest := []) ⟨hx, hb, hml, hown, hts⟩ (c_H_isOrderHeld l dC dI cI hq hq1 hq2 h_orderOfPiece h_lastDay h_heldOrders x2 N r5 hc) (cwV 1 hts (gV (w0 538 rfl) (w0 210 rfl) (w0 211 rfl) (w0 31 rfl) (w0 212 rfl)) rfl rfl rfl q_H_isOrderHeld ⟨Nat.le_of_ble_eq_true rfl, Nat.le_of_ble_eq_true rfl⟩) (ro_preV [15, 16, 17] rfl hK hP hN 2 0 (R_H, F_H, 3) rfl rfl) rfl rfl hl.1 rfl (lv_room (Nat.le_of_ble_eq_true rfl)) d_S_reserve_54 ⟨Nat.le_of_ble_eq_true rfl, Nat.le_of_ble_eq_true rfl⟩) (fun r9 hr9 => ?_)
          subst hr9
          refine lv_if_eq (tgt := 70) hx hb d_S_reserve_57 (by decide) (fun c9 => ?_) (fun c9 => ?_)
          · replace hm := if_t c9 hm
            refine lv_iload_n hx hb d_S_reserve_70 rfl (lv_at hl 3 rfl) ?_
            refine lv_aload_n hx hb d_S_reserve_71 rfl (lv_at hl 0 rfl) ?_
            refine va_get (D := (dC, dI)) (ci := 4) (v := .int s_today) (C := R_S) (T := F_S) (N := 11) hx hb hts hk1 hown hK hP 0 rfl rfl 7 (by decide) hk5 (fun _ h9 => h9) rfl d_S_reserve_72 ?_
            refine lv_sipush (v := 9999) hx hb d_S_reserve_75 (by decide) ?_
            obtain ⟨r6, hc, hm⟩ := bd hm
            try dsimp only at hm
            refine vp_callSi (W.runS (As := [.int x3, .int s_today, .int 9999]) (rest := []) ⟨hx, hb, hml, hown, hts⟩ (c_S_isWithin l dC dI cI x3 s_today 9999 N r6 hc) (cwS 3 hts (gS (w0 301 rfl) (w0 302 rfl) (w0 28 rfl) (w0 303 rfl)) rfl rfl rfl q_S_isWithin ⟨Nat.le_of_ble_eq_true rfl, Nat.le_of_ble_eq_true rfl⟩) ro_pre0 rfl rfl hl.1 rfl (lv_room (Nat.le_of_ble_eq_true rfl)) d_S_reserve_78 ⟨Nat.le_of_ble_eq_true rfl, Nat.le_of_ble_eq_true rfl⟩) (fun r9 hr9 => ?_)
            subst hr9
            refine lv_if_ne (tgt := 94) hx hb d_S_reserve_81 (by decide) (fun c9 => ?_) (fun c9 => ?_)
            · replace hm := if_f c9 hm
              refine lv_aload_n hx hb d_S_reserve_94 rfl (lv_at hl 0 rfl) ?_
              refine lv_iload_n hx hb d_S_reserve_95 rfl (lv_at hl 1 rfl) ?_
              refine lv_iload_n hx hb d_S_reserve_96 rfl (lv_at hl 2 rfl) ?_
              obtain ⟨z9, hc, hm⟩ := bd hm
              rcases z9 with k9 | ⟨⟩
              · dsimp only [tk] at hm
                cases hm
                exact xt_runV (As := [.int x1, .int x2]) (rest := []) ⟨hx, hb, hml, hown, hts⟩ (x_S_refuseMisfit l dC dI cI sq pq pq1 pq2 pq3 pq4 oq oq1 oq2 oq3 oq4 sq3 sq4 uq uq1 hq hq1 hq2 mq mq1 mq2 mq3 mq4 mq5 p_thicks p_wides p_lengths p_grades p_count o_thicks o_wides o_lengths o_grades o_count s_cameOn s_told u_ordersOfPiece u_usedOrders h_orderOfPiece h_lastDay h_heldOrders m_gains m_best m_chosen m_pieceDuals m_orderDuals m_pieceCount m_orderCount m_pairs m_worthSum m_upToDate s_today s_cutOff s_agingOff s_saleAge x1 x2 N _ hst hc) (cwV 2 hts (gV (w0 428 rfl) (w0 429 rfl) (w0 13 rfl) (w0 28 rfl) (w0 430 rfl)) rfl rfl rfl q_S_refuseMisfit ⟨Nat.le_of_ble_eq_true rfl, Nat.le_of_ble_eq_true rfl⟩) (rx_preV [0, 1, 2, 3, 4, 5, 6, 7, 8, 9, 10, 11, 12, 13, 14, 15, 16, 17, 18, 19, 20, 21, 22, 23] rfl hK hP hN hE 4 0 (R_S, F_S, 11) rfl rfl) rfl rfl hl.1 rfl (lv_room (Nat.le_of_ble_eq_true rfl)) d_S_reserve_97 ⟨Nat.le_of_ble_eq_true rfl, Nat.le_of_ble_eq_true rfl⟩ (fun q ce H1 hce hcv hcl hz hk => xt_out hout hlocks hce hcv hcl)
              · dsimp only [tk] at hm
                refine va_csv (W.runV (As := [.int x1, .int x2]) (rest := []) ⟨hx, hb, hml, hown, hts⟩ (c_S_refuseMisfit l dC dI cI sq pq pq1 pq2 pq3 pq4 oq oq1 oq2 oq3 oq4 sq3 sq4 uq uq1 hq hq1 hq2 mq mq1 mq2 mq3 mq4 mq5 p_thicks p_wides p_lengths p_grades p_count o_thicks o_wides o_lengths o_grades o_count s_cameOn s_told u_ordersOfPiece u_usedOrders h_orderOfPiece h_lastDay h_heldOrders m_gains m_best m_chosen m_pieceDuals m_orderDuals m_pieceCount m_orderCount m_pairs m_worthSum m_upToDate s_today s_cutOff s_agingOff s_saleAge x1 x2 N () hc) (cwV 2 hts (gV (w0 428 rfl) (w0 429 rfl) (w0 13 rfl) (w0 28 rfl) (w0 430 rfl)) rfl rfl rfl q_S_refuseMisfit ⟨Nat.le_of_ble_eq_true rfl, Nat.le_of_ble_eq_true rfl⟩) (ro_preV [0, 1, 2, 3, 4, 5, 6, 7, 8, 9, 10, 11, 12, 13, 14, 15, 16, 17, 18, 19, 20, 21, 22, 23] rfl hK hP hN 4 0 (R_S, F_S, 11) rfl rfl) rfl rfl hl.1 rfl (lv_room (Nat.le_of_ble_eq_true rfl)) d_S_reserve_97 ⟨Nat.le_of_ble_eq_true rfl, Nat.le_of_ble_eq_true rfl⟩) (fun _ => ?_)
                refine lv_aload_n hx hb d_S_reserve_100 rfl (lv_at hl 0 rfl) ?_
                refine va_get (D := (dC, dI)) (ci := 4) (v := .ref hq) (C := R_S) (T := F_S) (N := 11) hx hb hts hk1 hown hK hP 0 rfl rfl 5 (by decide) hk4 (fun _ h9 => h9) rfl d_S_reserve_101 ?_
                refine lv_iload_n hx hb d_S_reserve_104 rfl (lv_at hl 1 rfl) ?_
                refine lv_iload_n hx hb d_S_reserve_105 rfl (lv_at hl 2 rfl) ?_
                refine lv_iload_n hx hb d_S_reserve_106 rfl (lv_at hl 3 rfl) ?_
                obtain ⟨⟨u9, u10, u11⟩, hc, hm⟩ := bd hm
                try dsimp only at hm
                have hPc := hP.sub (ws' := [(hq, .inr (2, [.ref hq1, .ref hq2, .int h_heldOrders])), (hq1, .inl (cI, 10, .inl h_orderOfPiece)), (hq2, .inl (cI, 10, .inl h_lastDay))]) [15, 16, 17] rfl
                have hDc := hD.sub (ws' := [(hq, .inr (2, [.ref hq1, .ref hq2, .int h_heldOrders])), (hq1, .inl (cI, 10, .inl h_orderOfPiece)), (hq2, .inl (cI, 10, .inl h_lastDay))]) [15, 16, 17] (by decide) rfl
                have hFc := va_free (wc := [(hq, .inr (2, [.ref hq1, .ref hq2, .int h_heldOrders])), (hq1, .inl (cI, 10, .inl h_orderOfPiece)), (hq2, .inl (cI, 10, .inl h_lastDay))]) hD hS hA [15, 16, 17] rfl
                refine va_callv (va_runV (As := [.int x1, .int x2, .int x3]) (rest := []) ⟨hx, hb, hml, hown, hts⟩ (c_H_hold l dC dI cI hq hq1 hq2 s.heap.size h_orderOfPiece h_lastDay h_heldOrders x1 x2 x3 N (u9, u10, u11) hc) (cwV 3 hts (gV (w0 539 rfl) (w0 540 rfl) (w0 541 rfl) (w0 31 rfl) (w0 542 rfl)) rfl rfl rfl q_H_hold ⟨Nat.le_of_ble_eq_true rfl, Nat.le_of_ble_eq_true rfl⟩) (wr_preV hK hPc hDc hN 2 0 (R_H, F_H, 3) rfl rfl) rfl rfl hl.1 rfl (lv_room (Nat.le_of_ble_eq_true rfl)) d_S_reserve_107 ⟨Nat.le_of_ble_eq_true rfl, Nat.le_of_ble_eq_true rfl⟩) hS (fun q _ h => hFc q h) hFc (fun u t H1 locs ht hvm hw hB hz1 hk1 hS => ?_)
                obtain ⟨hP1, hK1, hD1⟩ := hB
                rw [ht] at hP1
                obtain ⟨hP, hD⟩ := va_join (wr := [(sq, .inr (4, [.ref pq, .ref oq, .ref sq3, .ref sq4, .ref uq, .ref hq, .ref mq, .int s_today, .int s_cutOff, .int s_agingOff, .int s_saleAge])), (pq, .inr (0, [.ref pq1, .ref pq2, .ref pq3, .ref pq4, .int p_count])), (pq1, .inl (cI, 10, .inl p_thicks)), (pq2, .inl (cI, 10, .inl p_wides)), (pq3, .inl (cI, 10, .inl p_lengths)), (pq4, .inl (cI, 10, .inl p_grades)), (oq, .inr (0, [.ref oq1, .ref oq2, .ref oq3, .ref oq4, .int o_count])), (oq1, .inl (cI, 10, .inl o_thicks)), (oq2, .inl (cI, 10, .inl o_wides)), (oq3, .inl (cI, 10, .inl o_lengths)), (oq4, .inl (cI, 10, .inl o_grades)), (sq3, .inl (cI, 10, .inl s_cameOn)), (sq4, .inl (cI, 100, .inl s_told)), (uq, .inr (1, [.ref uq1, .int u_usedOrders])), (uq1, .inl (cI, 10, .inl u_ordersOfPiece)), (mq, .inr (3, [.ref mq1, .ref mq2, .ref mq3, .ref mq4, .ref mq5, .int m_pieceCount, .int m_orderCount, .int m_pairs, .int m_worthSum, .int m_upToDate])), (mq1, .inl (cI, 100, .inl m_gains)), (mq2, .inl (cI, 11264, .inl m_best)), (mq3, .inl (cI, 10, .inl m_chosen)), (mq4, .inl (cI, 10, .inl m_pieceDuals)), (mq5, .inl (cI, 10, .inl m_orderDuals))]) (w1 := [(hq, .inr (2, [.ref hq1, .ref hq2, .int u11])), (hq1, .inl (cI, 10, .inl u9)), (hq2, .inl (cI, 10, .inl u10))]) hP hD [15, 16, 17] [0, 1, 2, 3, 4, 5, 6, 7, 8, 9, 10, 11, 12, 13, 14, 18, 19, 20, 21, 22, 23] rfl rfl (by decide) (by decide) hk1 hFc hP1 hD1
                generalize H1 = H at hP hS ⊢
                have hP : va_P (dC, dI) classes [(sq, .inr (4, [.ref pq, .ref oq, .ref sq3, .ref sq4, .ref uq, .ref hq, .ref mq, .int s_today, .int s_cutOff, .int s_agingOff, .int s_saleAge])), (pq, .inr (0, [.ref pq1, .ref pq2, .ref pq3, .ref pq4, .int p_count])), (pq1, .inl (cI, 10, .inl p_thicks)), (pq2, .inl (cI, 10, .inl p_wides)), (pq3, .inl (cI, 10, .inl p_lengths)), (pq4, .inl (cI, 10, .inl p_grades)), (oq, .inr (0, [.ref oq1, .ref oq2, .ref oq3, .ref oq4, .int o_count])), (oq1, .inl (cI, 10, .inl o_thicks)), (oq2, .inl (cI, 10, .inl o_wides)), (oq3, .inl (cI, 10, .inl o_lengths)), (oq4, .inl (cI, 10, .inl o_grades)), (sq3, .inl (cI, 10, .inl s_cameOn)), (sq4, .inl (cI, 100, .inl s_told)), (uq, .inr (1, [.ref uq1, .int u_usedOrders])), (uq1, .inl (cI, 10, .inl u_ordersOfPiece)), (mq, .inr (3, [.ref mq1, .ref mq2, .ref mq3, .ref mq4, .ref mq5, .int m_pieceCount, .int m_orderCount, .int m_pairs, .int m_worthSum, .int m_upToDate])), (mq1, .inl (cI, 100, .inl m_gains)), (mq2, .inl (cI, 11264, .inl m_best)), (mq3, .inl (cI, 10, .inl m_chosen)), (mq4, .inl (cI, 10, .inl m_pieceDuals)), (mq5, .inl (cI, 10, .inl m_orderDuals)), (hq, .inr (2, [.ref hq1, .ref hq2, .int u11])), (hq1, .inl (cI, 10, .inl u9)), (hq2, .inl (cI, 10, .inl u10))] H := hP
                have hD : va_D A [(sq, .inr (4, [.ref pq, .ref oq, .ref sq3, .ref sq4, .ref uq, .ref hq, .ref mq, .int s_today, .int s_cutOff, .int s_agingOff, .int s_saleAge])), (pq, .inr (0, [.ref pq1, .ref pq2, .ref pq3, .ref pq4, .int p_count])), (pq1, .inl (cI, 10, .inl p_thicks)), (pq2, .inl (cI, 10, .inl p_wides)), (pq3, .inl (cI, 10, .inl p_lengths)), (pq4, .inl (cI, 10, .inl p_grades)), (oq, .inr (0, [.ref oq1, .ref oq2, .ref oq3, .ref oq4, .int o_count])), (oq1, .inl (cI, 10, .inl o_thicks)), (oq2, .inl (cI, 10, .inl o_wides)), (oq3, .inl (cI, 10, .inl o_lengths)), (oq4, .inl (cI, 10, .inl o_grades)), (sq3, .inl (cI, 10, .inl s_cameOn)), (sq4, .inl (cI, 100, .inl s_told)), (uq, .inr (1, [.ref uq1, .int u_usedOrders])), (uq1, .inl (cI, 10, .inl u_ordersOfPiece)), (mq, .inr (3, [.ref mq1, .ref mq2, .ref mq3, .ref mq4, .ref mq5, .int m_pieceCount, .int m_orderCount, .int m_pairs, .int m_worthSum, .int m_upToDate])), (mq1, .inl (cI, 100, .inl m_gains)), (mq2, .inl (cI, 11264, .inl m_best)), (mq3, .inl (cI, 10, .inl m_chosen)), (mq4, .inl (cI, 10, .inl m_pieceDuals)), (mq5, .inl (cI, 10, .inl m_orderDuals)), (hq, .inr (2, [.ref hq1, .ref hq2, .int u11])), (hq1, .inl (cI, 10, .inl u9)), (hq2, .inl (cI, 10, .inl u10))] := hD
                clear hP1 hD1 hPc hDc hFc hk1 hz1
                cases hm
            · replace hm := if_t c9 hm
              cases hm
              obtain ⟨sa, hsa⟩ := hE.2.2.2.2 (192, "the day is past, or none") (List.mem_of_getElem? (i := 10) rfl)
              exact xt_throw (cls := "java/lang/IllegalArgumentException") (names := xnm) hx hb hst hown (by decide +kernel) xnm_fit hk6 hk7 hsa (hat_2 hts hE) (hl.1.trans hml.symm) d_S_reserve_84 d_S_reserve_87 d_S_reserve_88 d_S_reserve_90 d_S_reserve_93 hout (Nat.le_of_ble_eq_true rfl) (Nat.le_of_ble_eq_true rfl) (Nat.le_of_ble_eq_true rfl) (Nat.le_of_ble_eq_true rfl) hlocks
          · replace hm := if_f c9 hm
            cases hm
            obtain ⟨sa, hsa⟩ := hE.2.2.2.2 (190, "the piece or the order is reserved") (List.mem_of_getElem? (i := 9) rfl)
            exact xt_throw (cls := "java/lang/IllegalStateException") (names := xnm) hx hb hst hown (by decide +kernel) xnm_fit hk2 hk3 hsa (hat_1 hts hE) (hl.1.trans hml.symm) d_S_reserve_60 d_S_reserve_63 d_S_reserve_64 d_S_reserve_66 d_S_reserve_69 hout (Nat.le_of_ble_eq_true rfl) (Nat.le_of_ble_eq_true rfl) (Nat.le_of_ble_eq_true rfl) (Nat.le_of_ble_eq_true rfl) hlocks
      · replace hm := if_f c9 hm
        cases hm
        obtain ⟨sa, hsa⟩ := hE.2.2.2.2 (185, "the piece or the order is used") (List.mem_of_getElem? (i := 8) rfl)
        exact xt_throw (cls := "java/lang/IllegalStateException") (names := xnm) hx hb hst hown (by decide +kernel) xnm_fit hk2 hk3 hsa (hat_1 hts hE) (hl.1.trans hml.symm) d_S_reserve_28 d_S_reserve_31 d_S_reserve_32 d_S_reserve_34 d_S_reserve_37 hout (Nat.le_of_ble_eq_true rfl) (Nat.le_of_ble_eq_true rfl) (Nat.le_of_ble_eq_true rfl) (Nat.le_of_ble_eq_true rfl) hlocks

def w_S_reserved : List Cond := .code y_S_reserved b_S_reserved 2 (some .int) :: W0
theorem q_S_reserved : y_S_reserved.cls = R_S ∧ y_S_reserved.cls ≠ "java/lang/invoke/MethodHandle" ∧ y_S_reserved.cls ≠ "java/lang/invoke/VarHandle" ∧ (parseMethodDescriptor y_S_reserved.desc).map (fun d => d.parameters.length) = some 1 := by decide +kernel
def m_S_reserved (p_count : Int32) (h_orderOfPiece : Nat → Int32) (x1 : Int32) : Option (Nat ⊕ Int32) :=
  ((m_S_refuseUnknownPiece p_count x1).bind (tk fun _ =>
  ((m_H_orderHeldBy h_orderOfPiece x1).bind fun r2 =>
    some (.inr r2))))
set_option maxHeartbeats 4000000 in
set_option maxRecDepth 100000 in
theorem c_S_reserved (l : Launch) (dC : Nat → ClassId) (dI : Nat → Nat → Nat) (cI : ClassId) (sq pq pq1 pq2 pq3 pq4 oq oq1 oq2 oq3 oq4 sq3 sq4 uq uq1 hq hq1 hq2 mq mq1 mq2 mq3 mq4 mq5 : Nat) (p_thicks : Nat → Int32) (p_wides : Nat → Int32) (p_lengths : Nat → Int32) (p_grades : Nat → Int32) (p_count : Int32) (o_thicks : Nat → Int32) (o_wides : Nat → Int32) (o_lengths : Nat → Int32) (o_grades : Nat → Int32) (o_count : Int32) (s_cameOn : Nat → Int32) (s_told : Nat → Int32) (u_ordersOfPiece : Nat → Int32) (u_usedOrders : Int32) (h_orderOfPiece : Nat → Int32) (h_lastDay : Nat → Int32) (h_heldOrders : Int32) (m_gains : Nat → Int32) (m_best : Nat → Int32) (m_chosen : Nat → Int32) (m_pieceDuals : Nat → Int32) (m_orderDuals : Nat → Int32) (m_pieceCount : Int32) (m_orderCount : Int32) (m_pairs : Int32) (m_worthSum : Int32) (m_upToDate : Int32) (s_today : Int32) (s_cutOff : Int32) (s_agingOff : Int32) (s_saleAge : Int32) (x1 : Int32) (N : Nat) (res : Int32) (hm : m_S_reserved p_count h_orderOfPiece x1 = some (.inr res)) : Met l y_S_reserved w_S_reserved ({ frames := 2, cells := 0, slots := 0, locals := 42 } : Room) (va_Pc [.ref sq, .int x1] (fun U => va_P (dC, dI) classes [(sq, .inr (4, [.ref pq, .ref oq, .ref sq3, .ref sq4, .ref uq, .ref hq, .ref mq, .int s_today, .int s_cutOff, .int s_agingOff, .int s_saleAge])), (pq, .inr (0, [.ref pq1, .ref pq2, .ref pq3, .ref pq4, .int p_count])), (pq1, .inl (cI, 10, .inl p_thicks)), (pq2, .inl (cI, 10, .inl p_wides)), (pq3, .inl (cI, 10, .inl p_lengths)), (pq4, .inl (cI, 10, .inl p_grades)), (oq, .inr (0, [.ref oq1, .ref oq2, .ref oq3, .ref oq4, .int o_count])), (oq1, .inl (cI, 10, .inl o_thicks)), (oq2, .inl (cI, 10, .inl o_wides)), (oq3, .inl (cI, 10, .inl o_lengths)), (oq4, .inl (cI, 10, .inl o_grades)), (sq3, .inl (cI, 10, .inl s_cameOn)), (sq4, .inl (cI, 100, .inl s_told)), (uq, .inr (1, [.ref uq1, .int u_usedOrders])), (uq1, .inl (cI, 10, .inl u_ordersOfPiece)), (hq, .inr (2, [.ref hq1, .ref hq2, .int h_heldOrders])), (hq1, .inl (cI, 10, .inl h_orderOfPiece)), (hq2, .inl (cI, 10, .inl h_lastDay)), (mq, .inr (3, [.ref mq1, .ref mq2, .ref mq3, .ref mq4, .ref mq5, .int m_pieceCount, .int m_orderCount, .int m_pairs, .int m_worthSum, .int m_upToDate])), (mq1, .inl (cI, 100, .inl m_gains)), (mq2, .inl (cI, 11264, .inl m_best)), (mq3, .inl (cI, 10, .inl m_chosen)), (mq4, .inl (cI, 10, .inl m_pieceDuals)), (mq5, .inl (cI, 10, .inl m_orderDuals))] U.heap ∧ va_K (dC, dI) classes [(cI, .int)] U ∧ nw U)) (vp_Si (fun x => res = x)) 0 0 (fun _ => False) := by
  unfold m_S_reserved at hm
  refine Met.ofW (cc := b_S_reserved) (maxL := 2) (ret := (some .int)) (by decide) rfl ?_
  intro p e s m args below meth c s₁ B hml hv
  obtain ⟨rfl, hP, hK, hN⟩ := hv
  have hx := B.exec
  have hb := B.bytes
  have hr := B.returns
  have hts := atoms_spec (ws := w_S_reserved) B.pre
  have hown : s.vm.findClass R_S = some m.cls := findClass_of_methodNamed B.named
  have hlocks := B.notSynchronized
  have hk0 := hts (.fieldLink R_S 36 "SurplusMatch" "holds" "LSurplusMatch$Holds;") (List.mem_cons_of_mem _ (w0 146 rfl))
  have hk1 : ∀ w ∈ w_S, w ∈ w_S_reserved := fun w h => List.mem_cons_of_mem _ (i_S w h)
  have hl := lv_entry ([.ref sq, .int x1]) (n := 2) (Nat.le_of_ble_eq_true rfl)
  rw [lg_entry_eq]
  generalize (lg_sl ([.ref sq, .int x1]) ++ List.replicate (2 - (lg_sl ([.ref sq, .int x1])).length) Slot.unset).toArray = ls at hl ⊢
  have hl : lv_has ls 2 [(0, .ref sq), (1, .int x1)] := hl
  refine lv_aload_n hx hb d_S_reserved_0 rfl (lv_at hl 0 rfl) ?_
  refine lv_iload_n hx hb d_S_reserved_1 rfl (lv_at hl 1 rfl) ?_
  obtain ⟨z9, hc, hm⟩ := bd hm
  rcases z9 with k9 | ⟨⟩
  · dsimp only [tk] at hm
    cases hm
  · dsimp only [tk] at hm
    refine va_csv (W.runV (As := [.int x1]) (rest := []) ⟨hx, hb, hml, hown, hts⟩ (c_S_refuseUnknownPiece l dC dI cI sq pq pq1 pq2 pq3 pq4 oq oq1 oq2 oq3 oq4 sq3 sq4 uq uq1 hq hq1 hq2 mq mq1 mq2 mq3 mq4 mq5 p_thicks p_wides p_lengths p_grades p_count o_thicks o_wides o_lengths o_grades o_count s_cameOn s_told u_ordersOfPiece u_usedOrders h_orderOfPiece h_lastDay h_heldOrders m_gains m_best m_chosen m_pieceDuals m_orderDuals m_pieceCount m_orderCount m_pairs m_worthSum m_upToDate s_today s_cutOff s_agingOff s_saleAge x1 N () hc) (cwV 1 hts (gV (w0 406 rfl) (w0 407 rfl) (w0 12 rfl) (w0 28 rfl) (w0 408 rfl)) rfl rfl rfl q_S_refuseUnknownPiece ⟨Nat.le_of_ble_eq_true rfl, Nat.le_of_ble_eq_true rfl⟩) (ro_preV [0, 1, 2, 3, 4, 5, 6, 7, 8, 9, 10, 11, 12, 13, 14, 15, 16, 17, 18, 19, 20, 21, 22, 23] rfl hK hP hN 4 0 (R_S, F_S, 11) rfl rfl) rfl rfl hl.1 rfl (lv_room (Nat.le_of_ble_eq_true rfl)) d_S_reserved_2 ⟨Nat.le_of_ble_eq_true rfl, Nat.le_of_ble_eq_true rfl⟩) (fun _ => ?_)
    refine lv_aload_n hx hb d_S_reserved_5 rfl (lv_at hl 0 rfl) ?_
    refine va_get (D := (dC, dI)) (ci := 4) (v := .ref hq) (C := R_S) (T := F_S) (N := 11) hx hb hts hk1 hown hK hP 0 rfl rfl 5 (by decide) hk0 (fun _ h9 => h9) rfl d_S_reserved_6 ?_
    refine lv_iload_n hx hb d_S_reserved_9 rfl (lv_at hl 1 rfl) ?_
    obtain ⟨r2, hc, hm⟩ := bd hm
    try dsimp only at hm
    refine vp_callSi (W.runV (As := [.int x1]) (rest := []) ⟨hx, hb, hml, hown, hts⟩ (c_H_orderHeldBy l dC dI cI hq hq1 hq2 h_orderOfPiece h_lastDay h_heldOrders x1 N r2 hc) (cwV 1 hts (gV (w0 550 rfl) (w0 551 rfl) (w0 552 rfl) (w0 31 rfl) (w0 553 rfl)) rfl rfl rfl q_H_orderHeldBy ⟨Nat.le_of_ble_eq_true rfl, Nat.le_of_ble_eq_true rfl⟩) (ro_preV [15, 16, 17] rfl hK hP hN 2 0 (R_H, F_H, 3) rfl rfl) rfl rfl hl.1 rfl (lv_room (Nat.le_of_ble_eq_true rfl)) d_S_reserved_10 ⟨Nat.le_of_ble_eq_true rfl, Nat.le_of_ble_eq_true rfl⟩) (fun r9 hr9 => ?_)
    subst hr9
    cases hm
    exact W.iret hx hb hr (fun t ht hW => ⟨_, rfl, rfl, ht⟩) (fun _ h => nomatch h) d_S_reserved_13
set_option maxHeartbeats 4000000 in
set_option maxRecDepth 100000 in
theorem x_S_reserved (l : Launch) (dC : Nat → ClassId) (dI : Nat → Nat → Nat) (cI : ClassId) (sq pq pq1 pq2 pq3 pq4 oq oq1 oq2 oq3 oq4 sq3 sq4 uq uq1 hq hq1 hq2 mq mq1 mq2 mq3 mq4 mq5 : Nat) (p_thicks : Nat → Int32) (p_wides : Nat → Int32) (p_lengths : Nat → Int32) (p_grades : Nat → Int32) (p_count : Int32) (o_thicks : Nat → Int32) (o_wides : Nat → Int32) (o_lengths : Nat → Int32) (o_grades : Nat → Int32) (o_count : Int32) (s_cameOn : Nat → Int32) (s_told : Nat → Int32) (u_ordersOfPiece : Nat → Int32) (u_usedOrders : Int32) (h_orderOfPiece : Nat → Int32) (h_lastDay : Nat → Int32) (h_heldOrders : Int32) (m_gains : Nat → Int32) (m_best : Nat → Int32) (m_chosen : Nat → Int32) (m_pieceDuals : Nat → Int32) (m_orderDuals : Nat → Int32) (m_pieceCount : Int32) (m_orderCount : Int32) (m_pairs : Int32) (m_worthSum : Int32) (m_upToDate : Int32) (s_today : Int32) (s_cutOff : Int32) (s_agingOff : Int32) (s_saleAge : Int32) (x1 : Int32) (N : Nat) (k : Nat) (hst : l.stackTraces = false) (hm : m_S_reserved p_count h_orderOfPiece x1 = some (.inl k)) : xt_Met l y_S_reserved w_S_reserved ({ frames := 7, cells := 1, slots := 6, locals := 117 } : Room) (va_Pc [.ref sq, .int x1] (fun U => va_P (dC, dI) classes [(sq, .inr (4, [.ref pq, .ref oq, .ref sq3, .ref sq4, .ref uq, .ref hq, .ref mq, .int s_today, .int s_cutOff, .int s_agingOff, .int s_saleAge])), (pq, .inr (0, [.ref pq1, .ref pq2, .ref pq3, .ref pq4, .int p_count])), (pq1, .inl (cI, 10, .inl p_thicks)), (pq2, .inl (cI, 10, .inl p_wides)), (pq3, .inl (cI, 10, .inl p_lengths)), (pq4, .inl (cI, 10, .inl p_grades)), (oq, .inr (0, [.ref oq1, .ref oq2, .ref oq3, .ref oq4, .int o_count])), (oq1, .inl (cI, 10, .inl o_thicks)), (oq2, .inl (cI, 10, .inl o_wides)), (oq3, .inl (cI, 10, .inl o_lengths)), (oq4, .inl (cI, 10, .inl o_grades)), (sq3, .inl (cI, 10, .inl s_cameOn)), (sq4, .inl (cI, 100, .inl s_told)), (uq, .inr (1, [.ref uq1, .int u_usedOrders])), (uq1, .inl (cI, 10, .inl u_ordersOfPiece)), (hq, .inr (2, [.ref hq1, .ref hq2, .int h_heldOrders])), (hq1, .inl (cI, 10, .inl h_orderOfPiece)), (hq2, .inl (cI, 10, .inl h_lastDay)), (mq, .inr (3, [.ref mq1, .ref mq2, .ref mq3, .ref mq4, .ref mq5, .int m_pieceCount, .int m_orderCount, .int m_pairs, .int m_worthSum, .int m_upToDate])), (mq1, .inl (cI, 100, .inl m_gains)), (mq2, .inl (cI, 11264, .inl m_best)), (mq3, .inl (cI, 10, .inl m_chosen)), (mq4, .inl (cI, 10, .inl m_pieceDuals)), (mq5, .inl (cI, 10, .inl m_orderDuals))] U.heap ∧ va_K (dC, dI) classes [(cI, .int)] U ∧ nw U ∧ xE xTx U U.heap)) (xn k) := by
  unfold m_S_reserved at hm
  refine xt_ofW (cc := b_S_reserved) (maxL := 2) (ret := (some .int)) (by decide) rfl ?_
  intro p e s m args below meth c s₁ B hml hout hv
  obtain ⟨rfl, hP, hK, hN, hE⟩ := hv
  have hx := B.exec
  have hb := B.bytes
  have hr := B.returns
  have hts := atoms_spec (ws := w_S_reserved) B.pre
  have hown : s.vm.findClass R_S = some m.cls := findClass_of_methodNamed B.named
  have hlocks := B.notSynchronized
  have hk0 := hts (.fieldLink R_S 36 "SurplusMatch" "holds" "LSurplusMatch$Holds;") (List.mem_cons_of_mem _ (w0 146 rfl))
  have hk1 : ∀ w ∈ w_S, w ∈ w_S_reserved := fun w h => List.mem_cons_of_mem _ (i_S w h)
  have hl := lv_entry ([.ref sq, .int x1]) (n := 2) (Nat.le_of_ble_eq_true rfl)
  rw [lg_entry_eq]
  generalize (lg_sl ([.ref sq, .int x1]) ++ List.replicate (2 - (lg_sl ([.ref sq, .int x1])).length) Slot.unset).toArray = ls at hl ⊢
  have hl : lv_has ls 2 [(0, .ref sq), (1, .int x1)] := hl
  refine lv_aload_n hx hb d_S_reserved_0 rfl (lv_at hl 0 rfl) ?_
  refine lv_iload_n hx hb d_S_reserved_1 rfl (lv_at hl 1 rfl) ?_
  obtain ⟨z9, hc, hm⟩ := bd hm
  rcases z9 with k9 | ⟨⟩
  · dsimp only [tk] at hm
    cases hm
    exact xt_runV (As := [.int x1]) (rest := []) ⟨hx, hb, hml, hown, hts⟩ (x_S_refuseUnknownPiece l dC dI cI sq pq pq1 pq2 pq3 pq4 oq oq1 oq2 oq3 oq4 sq3 sq4 uq uq1 hq hq1 hq2 mq mq1 mq2 mq3 mq4 mq5 p_thicks p_wides p_lengths p_grades p_count o_thicks o_wides o_lengths o_grades o_count s_cameOn s_told u_ordersOfPiece u_usedOrders h_orderOfPiece h_lastDay h_heldOrders m_gains m_best m_chosen m_pieceDuals m_orderDuals m_pieceCount m_orderCount m_pairs m_worthSum m_upToDate s_today s_cutOff s_agingOff s_saleAge x1 N _ hst hc) (cwV 1 hts (gV (w0 406 rfl) (w0 407 rfl) (w0 12 rfl) (w0 28 rfl) (w0 408 rfl)) rfl rfl rfl q_S_refuseUnknownPiece ⟨Nat.le_of_ble_eq_true rfl, Nat.le_of_ble_eq_true rfl⟩) (rx_preV [0, 1, 2, 3, 4, 5, 6, 7, 8, 9, 10, 11, 12, 13, 14, 15, 16, 17, 18, 19, 20, 21, 22, 23] rfl hK hP hN hE 4 0 (R_S, F_S, 11) rfl rfl) rfl rfl hl.1 rfl (lv_room (Nat.le_of_ble_eq_true rfl)) d_S_reserved_2 ⟨Nat.le_of_ble_eq_true rfl, Nat.le_of_ble_eq_true rfl⟩ (fun q ce H1 hce hcv hcl hz hk => xt_out hout hlocks hce hcv hcl)
  · dsimp only [tk] at hm
    refine va_csv (W.runV (As := [.int x1]) (rest := []) ⟨hx, hb, hml, hown, hts⟩ (c_S_refuseUnknownPiece l dC dI cI sq pq pq1 pq2 pq3 pq4 oq oq1 oq2 oq3 oq4 sq3 sq4 uq uq1 hq hq1 hq2 mq mq1 mq2 mq3 mq4 mq5 p_thicks p_wides p_lengths p_grades p_count o_thicks o_wides o_lengths o_grades o_count s_cameOn s_told u_ordersOfPiece u_usedOrders h_orderOfPiece h_lastDay h_heldOrders m_gains m_best m_chosen m_pieceDuals m_orderDuals m_pieceCount m_orderCount m_pairs m_worthSum m_upToDate s_today s_cutOff s_agingOff s_saleAge x1 N () hc) (cwV 1 hts (gV (w0 406 rfl) (w0 407 rfl) (w0 12 rfl) (w0 28 rfl) (w0 408 rfl)) rfl rfl rfl q_S_refuseUnknownPiece ⟨Nat.le_of_ble_eq_true rfl, Nat.le_of_ble_eq_true rfl⟩) (ro_preV [0, 1, 2, 3, 4, 5, 6, 7, 8, 9, 10, 11, 12, 13, 14, 15, 16, 17, 18, 19, 20, 21, 22, 23] rfl hK hP hN 4 0 (R_S, F_S, 11) rfl rfl) rfl rfl hl.1 rfl (lv_room (Nat.le_of_ble_eq_true rfl)) d_S_reserved_2 ⟨Nat.le_of_ble_eq_true rfl, Nat.le_of_ble_eq_true rfl⟩) (fun _ => ?_)
    refine lv_aload_n hx hb d_S_reserved_5 rfl (lv_at hl 0 rfl) ?_
    refine va_get (D := (dC, dI)) (ci := 4) (v := .ref hq) (C := R_S) (T := F_S) (N := 11) hx hb hts hk1 hown hK hP 0 rfl rfl 5 (by decide) hk0 (fun _ h9 => h9) rfl d_S_reserved_6 ?_
    refine lv_iload_n hx hb d_S_reserved_9 rfl (lv_at hl 1 rfl) ?_
    obtain ⟨r2, hc, hm⟩ := bd hm
    try dsimp only at hm
    refine vp_callSi (W.runV (As := [.int x1]) (rest := []) ⟨hx, hb, hml, hown, hts⟩ (c_H_orderHeldBy l dC dI cI hq hq1 hq2 h_orderOfPiece h_lastDay h_heldOrders x1 N r2 hc) (cwV 1 hts (gV (w0 550 rfl) (w0 551 rfl) (w0 552 rfl) (w0 31 rfl) (w0 553 rfl)) rfl rfl rfl q_H_orderHeldBy ⟨Nat.le_of_ble_eq_true rfl, Nat.le_of_ble_eq_true rfl⟩) (ro_preV [15, 16, 17] rfl hK hP hN 2 0 (R_H, F_H, 3) rfl rfl) rfl rfl hl.1 rfl (lv_room (Nat.le_of_ble_eq_true rfl)) d_S_reserved_10 ⟨Nat.le_of_ble_eq_true rfl, Nat.le_of_ble_eq_true rfl⟩) (fun r9 hr9 => ?_)
    subst hr9
    cases hm

def w_S_undo : List Cond := .code y_S_undo b_S_undo 2 none :: W0
theorem q_S_undo : y_S_undo.cls = R_S ∧ y_S_undo.cls ≠ "java/lang/invoke/MethodHandle" ∧ y_S_undo.cls ≠ "java/lang/invoke/VarHandle" ∧ (parseMethodDescriptor y_S_undo.desc).map (fun d => d.parameters.length) = some 1 := by decide +kernel
def m_S_undo (p_count : Int32) (u_ordersOfPiece : Nat → Int32) (u_usedOrders : Int32) (x1 : Int32) : Option (Nat ⊕ ((Nat → Int32) × Int32)) :=
  ((m_S_refuseUnknownPiece p_count x1).bind (tk fun _ =>
  ((m_U_isPieceUsed u_ordersOfPiece x1).bind fun r2 =>
    (if r2 = 0 then
      some (.inl 1)
     else
      ((m_U_free u_ordersOfPiece u_usedOrders x1).bind fun (u4, u5) =>
        some (.inr (u4, u5)))))))
set_option maxHeartbeats 4000000 in
set_option maxRecDepth 100000 in
theorem c_S_undo (l : Launch) (dC : Nat → ClassId) (dI : Nat → Nat → Nat) (cI : ClassId) (sq pq pq1 pq2 pq3 pq4 oq oq1 oq2 oq3 oq4 sq3 sq4 uq uq1 hq hq1 hq2 mq mq1 mq2 mq3 mq4 mq5 : Nat) (sz : Nat) (p_thicks : Nat → Int32) (p_wides : Nat → Int32) (p_lengths : Nat → Int32) (p_grades : Nat → Int32) (p_count : Int32) (o_thicks : Nat → Int32) (o_wides : Nat → Int32) (o_lengths : Nat → Int32) (o_grades : Nat → Int32) (o_count : Int32) (s_cameOn : Nat → Int32) (s_told : Nat → Int32) (u_ordersOfPiece : Nat → Int32) (u_usedOrders : Int32) (h_orderOfPiece : Nat → Int32) (h_lastDay : Nat → Int32) (h_heldOrders : Int32) (m_gains : Nat → Int32) (m_best : Nat → Int32) (m_chosen : Nat → Int32) (m_pieceDuals : Nat → Int32) (m_orderDuals : Nat → Int32) (m_pieceCount : Int32) (m_orderCount : Int32) (m_pairs : Int32) (m_worthSum : Int32) (m_upToDate : Int32) (s_today : Int32) (s_cutOff : Int32) (s_agingOff : Int32) (s_saleAge : Int32) (x1 : Int32) (N : Nat) (res : (Nat → Int32) × Int32) (hm : m_S_undo p_count u_ordersOfPiece u_usedOrders x1 = some (.inr res)) : Met l y_S_undo w_S_undo ({ frames := 2, cells := 0, slots := 0, locals := 42 } : Room) (va_Pc [.ref sq, .int x1] (fun U => U.heap.size = sz ∧ va_P (dC, dI) classes [(sq, .inr (4, [.ref pq, .ref oq, .ref sq3, .ref sq4, .ref uq, .ref hq, .ref mq, .int s_today, .int s_cutOff, .int s_agingOff, .int s_saleAge])), (pq, .inr (0, [.ref pq1, .ref pq2, .ref pq3, .ref pq4, .int p_count])), (pq1, .inl (cI, 10, .inl p_thicks)), (pq2, .inl (cI, 10, .inl p_wides)), (pq3, .inl (cI, 10, .inl p_lengths)), (pq4, .inl (cI, 10, .inl p_grades)), (oq, .inr (0, [.ref oq1, .ref oq2, .ref oq3, .ref oq4, .int o_count])), (oq1, .inl (cI, 10, .inl o_thicks)), (oq2, .inl (cI, 10, .inl o_wides)), (oq3, .inl (cI, 10, .inl o_lengths)), (oq4, .inl (cI, 10, .inl o_grades)), (sq3, .inl (cI, 10, .inl s_cameOn)), (sq4, .inl (cI, 100, .inl s_told)), (uq, .inr (1, [.ref uq1, .int u_usedOrders])), (uq1, .inl (cI, 10, .inl u_ordersOfPiece)), (hq, .inr (2, [.ref hq1, .ref hq2, .int h_heldOrders])), (hq1, .inl (cI, 10, .inl h_orderOfPiece)), (hq2, .inl (cI, 10, .inl h_lastDay)), (mq, .inr (3, [.ref mq1, .ref mq2, .ref mq3, .ref mq4, .ref mq5, .int m_pieceCount, .int m_orderCount, .int m_pairs, .int m_worthSum, .int m_upToDate])), (mq1, .inl (cI, 100, .inl m_gains)), (mq2, .inl (cI, 11264, .inl m_best)), (mq3, .inl (cI, 10, .inl m_chosen)), (mq4, .inl (cI, 10, .inl m_pieceDuals)), (mq5, .inl (cI, 10, .inl m_orderDuals))] U.heap ∧ va_K (dC, dI) classes [(cI, .int)] U ∧ va_D (fun _ => True) [(sq, .inr (4, [.ref pq, .ref oq, .ref sq3, .ref sq4, .ref uq, .ref hq, .ref mq, .int s_today, .int s_cutOff, .int s_agingOff, .int s_saleAge])), (pq, .inr (0, [.ref pq1, .ref pq2, .ref pq3, .ref pq4, .int p_count])), (pq1, .inl (cI, 10, .inl p_thicks)), (pq2, .inl (cI, 10, .inl p_wides)), (pq3, .inl (cI, 10, .inl p_lengths)), (pq4, .inl (cI, 10, .inl p_grades)), (oq, .inr (0, [.ref oq1, .ref oq2, .ref oq3, .ref oq4, .int o_count])), (oq1, .inl (cI, 10, .inl o_thicks)), (oq2, .inl (cI, 10, .inl o_wides)), (oq3, .inl (cI, 10, .inl o_lengths)), (oq4, .inl (cI, 10, .inl o_grades)), (sq3, .inl (cI, 10, .inl s_cameOn)), (sq4, .inl (cI, 100, .inl s_told)), (uq, .inr (1, [.ref uq1, .int u_usedOrders])), (uq1, .inl (cI, 10, .inl u_ordersOfPiece)), (hq, .inr (2, [.ref hq1, .ref hq2, .int h_heldOrders])), (hq1, .inl (cI, 10, .inl h_orderOfPiece)), (hq2, .inl (cI, 10, .inl h_lastDay)), (mq, .inr (3, [.ref mq1, .ref mq2, .ref mq3, .ref mq4, .ref mq5, .int m_pieceCount, .int m_orderCount, .int m_pairs, .int m_worthSum, .int m_upToDate])), (mq1, .inl (cI, 100, .inl m_gains)), (mq2, .inl (cI, 11264, .inl m_best)), (mq3, .inl (cI, 10, .inl m_chosen)), (mq4, .inl (cI, 10, .inl m_pieceDuals)), (mq5, .inl (cI, 10, .inl m_orderDuals))] ∧ nw U)) (va_Qv (fun _ : Unit => True) (fun _ t => va_P (dC, dI) classes [(sq, .inr (4, [.ref pq, .ref oq, .ref sq3, .ref sq4, .ref uq, .ref hq, .ref mq, .int s_today, .int s_cutOff, .int s_agingOff, .int s_saleAge])), (pq, .inr (0, [.ref pq1, .ref pq2, .ref pq3, .ref pq4, .int p_count])), (pq1, .inl (cI, 10, .inl p_thicks)), (pq2, .inl (cI, 10, .inl p_wides)), (pq3, .inl (cI, 10, .inl p_lengths)), (pq4, .inl (cI, 10, .inl p_grades)), (oq, .inr (0, [.ref oq1, .ref oq2, .ref oq3, .ref oq4, .int o_count])), (oq1, .inl (cI, 10, .inl o_thicks)), (oq2, .inl (cI, 10, .inl o_wides)), (oq3, .inl (cI, 10, .inl o_lengths)), (oq4, .inl (cI, 10, .inl o_grades)), (sq3, .inl (cI, 10, .inl s_cameOn)), (sq4, .inl (cI, 100, .inl s_told)), (uq, .inr (1, [.ref uq1, .int res.2])), (uq1, .inl (cI, 10, .inl res.1)), (hq, .inr (2, [.ref hq1, .ref hq2, .int h_heldOrders])), (hq1, .inl (cI, 10, .inl h_orderOfPiece)), (hq2, .inl (cI, 10, .inl h_lastDay)), (mq, .inr (3, [.ref mq1, .ref mq2, .ref mq3, .ref mq4, .ref mq5, .int m_pieceCount, .int m_orderCount, .int m_pairs, .int m_worthSum, .int m_upToDate])), (mq1, .inl (cI, 100, .inl m_gains)), (mq2, .inl (cI, 11264, .inl m_best)), (mq3, .inl (cI, 10, .inl m_chosen)), (mq4, .inl (cI, 10, .inl m_pieceDuals)), (mq5, .inl (cI, 10, .inl m_orderDuals))] t.heap ∧ va_K (dC, dI) classes [(cI, .int)] t ∧ va_D (va_A [(sq, .inr (4, [.ref pq, .ref oq, .ref sq3, .ref sq4, .ref uq, .ref hq, .ref mq, .int s_today, .int s_cutOff, .int s_agingOff, .int s_saleAge])), (pq, .inr (0, [.ref pq1, .ref pq2, .ref pq3, .ref pq4, .int p_count])), (pq1, .inl (cI, 10, .inl p_thicks)), (pq2, .inl (cI, 10, .inl p_wides)), (pq3, .inl (cI, 10, .inl p_lengths)), (pq4, .inl (cI, 10, .inl p_grades)), (oq, .inr (0, [.ref oq1, .ref oq2, .ref oq3, .ref oq4, .int o_count])), (oq1, .inl (cI, 10, .inl o_thicks)), (oq2, .inl (cI, 10, .inl o_wides)), (oq3, .inl (cI, 10, .inl o_lengths)), (oq4, .inl (cI, 10, .inl o_grades)), (sq3, .inl (cI, 10, .inl s_cameOn)), (sq4, .inl (cI, 100, .inl s_told)), (uq, .inr (1, [.ref uq1, .int u_usedOrders])), (uq1, .inl (cI, 10, .inl u_ordersOfPiece)), (hq, .inr (2, [.ref hq1, .ref hq2, .int h_heldOrders])), (hq1, .inl (cI, 10, .inl h_orderOfPiece)), (hq2, .inl (cI, 10, .inl h_lastDay)), (mq, .inr (3, [.ref mq1, .ref mq2, .ref mq3, .ref mq4, .ref mq5, .int m_pieceCount, .int m_orderCount, .int m_pairs, .int m_worthSum, .int m_upToDate])), (mq1, .inl (cI, 100, .inl m_gains)), (mq2, .inl (cI, 11264, .inl m_best)), (mq3, .inl (cI, 10, .inl m_chosen)), (mq4, .inl (cI, 10, .inl m_pieceDuals)), (mq5, .inl (cI, 10, .inl m_orderDuals))] sz) [(sq, .inr (4, [.ref pq, .ref oq, .ref sq3, .ref sq4, .ref uq, .ref hq, .ref mq, .int s_today, .int s_cutOff, .int s_agingOff, .int s_saleAge])), (pq, .inr (0, [.ref pq1, .ref pq2, .ref pq3, .ref pq4, .int p_count])), (pq1, .inl (cI, 10, .inl p_thicks)), (pq2, .inl (cI, 10, .inl p_wides)), (pq3, .inl (cI, 10, .inl p_lengths)), (pq4, .inl (cI, 10, .inl p_grades)), (oq, .inr (0, [.ref oq1, .ref oq2, .ref oq3, .ref oq4, .int o_count])), (oq1, .inl (cI, 10, .inl o_thicks)), (oq2, .inl (cI, 10, .inl o_wides)), (oq3, .inl (cI, 10, .inl o_lengths)), (oq4, .inl (cI, 10, .inl o_grades)), (sq3, .inl (cI, 10, .inl s_cameOn)), (sq4, .inl (cI, 100, .inl s_told)), (uq, .inr (1, [.ref uq1, .int res.2])), (uq1, .inl (cI, 10, .inl res.1)), (hq, .inr (2, [.ref hq1, .ref hq2, .int h_heldOrders])), (hq1, .inl (cI, 10, .inl h_orderOfPiece)), (hq2, .inl (cI, 10, .inl h_lastDay)), (mq, .inr (3, [.ref mq1, .ref mq2, .ref mq3, .ref mq4, .ref mq5, .int m_pieceCount, .int m_orderCount, .int m_pairs, .int m_worthSum, .int m_upToDate])), (mq1, .inl (cI, 100, .inl m_gains)), (mq2, .inl (cI, 11264, .inl m_best)), (mq3, .inl (cI, 10, .inl m_chosen)), (mq4, .inl (cI, 10, .inl m_pieceDuals)), (mq5, .inl (cI, 10, .inl m_orderDuals))]) (va_A [(sq, .inr (4, [.ref pq, .ref oq, .ref sq3, .ref sq4, .ref uq, .ref hq, .ref mq, .int s_today, .int s_cutOff, .int s_agingOff, .int s_saleAge])), (pq, .inr (0, [.ref pq1, .ref pq2, .ref pq3, .ref pq4, .int p_count])), (pq1, .inl (cI, 10, .inl p_thicks)), (pq2, .inl (cI, 10, .inl p_wides)), (pq3, .inl (cI, 10, .inl p_lengths)), (pq4, .inl (cI, 10, .inl p_grades)), (oq, .inr (0, [.ref oq1, .ref oq2, .ref oq3, .ref oq4, .int o_count])), (oq1, .inl (cI, 10, .inl o_thicks)), (oq2, .inl (cI, 10, .inl o_wides)), (oq3, .inl (cI, 10, .inl o_lengths)), (oq4, .inl (cI, 10, .inl o_grades)), (sq3, .inl (cI, 10, .inl s_cameOn)), (sq4, .inl (cI, 100, .inl s_told)), (uq, .inr (1, [.ref uq1, .int u_usedOrders])), (uq1, .inl (cI, 10, .inl u_ordersOfPiece)), (hq, .inr (2, [.ref hq1, .ref hq2, .int h_heldOrders])), (hq1, .inl (cI, 10, .inl h_orderOfPiece)), (hq2, .inl (cI, 10, .inl h_lastDay)), (mq, .inr (3, [.ref mq1, .ref mq2, .ref mq3, .ref mq4, .ref mq5, .int m_pieceCount, .int m_orderCount, .int m_pairs, .int m_worthSum, .int m_upToDate])), (mq1, .inl (cI, 100, .inl m_gains)), (mq2, .inl (cI, 11264, .inl m_best)), (mq3, .inl (cI, 10, .inl m_chosen)), (mq4, .inl (cI, 10, .inl m_pieceDuals)), (mq5, .inl (cI, 10, .inl m_orderDuals))] sz)) 0 0 (va_A [(sq, .inr (4, [.ref pq, .ref oq, .ref sq3, .ref sq4, .ref uq, .ref hq, .ref mq, .int s_today, .int s_cutOff, .int s_agingOff, .int s_saleAge])), (pq, .inr (0, [.ref pq1, .ref pq2, .ref pq3, .ref pq4, .int p_count])), (pq1, .inl (cI, 10, .inl p_thicks)), (pq2, .inl (cI, 10, .inl p_wides)), (pq3, .inl (cI, 10, .inl p_lengths)), (pq4, .inl (cI, 10, .inl p_grades)), (oq, .inr (0, [.ref oq1, .ref oq2, .ref oq3, .ref oq4, .int o_count])), (oq1, .inl (cI, 10, .inl o_thicks)), (oq2, .inl (cI, 10, .inl o_wides)), (oq3, .inl (cI, 10, .inl o_lengths)), (oq4, .inl (cI, 10, .inl o_grades)), (sq3, .inl (cI, 10, .inl s_cameOn)), (sq4, .inl (cI, 100, .inl s_told)), (uq, .inr (1, [.ref uq1, .int u_usedOrders])), (uq1, .inl (cI, 10, .inl u_ordersOfPiece)), (hq, .inr (2, [.ref hq1, .ref hq2, .int h_heldOrders])), (hq1, .inl (cI, 10, .inl h_orderOfPiece)), (hq2, .inl (cI, 10, .inl h_lastDay)), (mq, .inr (3, [.ref mq1, .ref mq2, .ref mq3, .ref mq4, .ref mq5, .int m_pieceCount, .int m_orderCount, .int m_pairs, .int m_worthSum, .int m_upToDate])), (mq1, .inl (cI, 100, .inl m_gains)), (mq2, .inl (cI, 11264, .inl m_best)), (mq3, .inl (cI, 10, .inl m_chosen)), (mq4, .inl (cI, 10, .inl m_pieceDuals)), (mq5, .inl (cI, 10, .inl m_orderDuals))] sz) := by
  unfold m_S_undo at hm
  refine Met.ofW (cc := b_S_undo) (maxL := 2) (ret := none) (by decide) rfl ?_
  intro p e s m args below meth c s₁ B hml hv
  obtain ⟨rfl, hsz, hP, hK, hD0, hN⟩ := hv
  have hx := B.exec
  have hb := B.bytes
  have hr := B.returns
  have hts := atoms_spec (ws := w_S_undo) B.pre
  have hown : s.vm.findClass R_S = some m.cls := findClass_of_methodNamed B.named
  have hlocks := B.notSynchronized
  subst hsz
  have hD := hD0.self (sz := s.heap.size)
  generalize hAe : va_A [(sq, .inr (4, [.ref pq, .ref oq, .ref sq3, .ref sq4, .ref uq, .ref hq, .ref mq, .int s_today, .int s_cutOff, .int s_agingOff, .int s_saleAge])), (pq, .inr (0, [.ref pq1, .ref pq2, .ref pq3, .ref pq4, .int p_count])), (pq1, .inl (cI, 10, .inl p_thicks)), (pq2, .inl (cI, 10, .inl p_wides)), (pq3, .inl (cI, 10, .inl p_lengths)), (pq4, .inl (cI, 10, .inl p_grades)), (oq, .inr (0, [.ref oq1, .ref oq2, .ref oq3, .ref oq4, .int o_count])), (oq1, .inl (cI, 10, .inl o_thicks)), (oq2, .inl (cI, 10, .inl o_wides)), (oq3, .inl (cI, 10, .inl o_lengths)), (oq4, .inl (cI, 10, .inl o_grades)), (sq3, .inl (cI, 10, .inl s_cameOn)), (sq4, .inl (cI, 100, .inl s_told)), (uq, .inr (1, [.ref uq1, .int u_usedOrders])), (uq1, .inl (cI, 10, .inl u_ordersOfPiece)), (hq, .inr (2, [.ref hq1, .ref hq2, .int h_heldOrders])), (hq1, .inl (cI, 10, .inl h_orderOfPiece)), (hq2, .inl (cI, 10, .inl h_lastDay)), (mq, .inr (3, [.ref mq1, .ref mq2, .ref mq3, .ref mq4, .ref mq5, .int m_pieceCount, .int m_orderCount, .int m_pairs, .int m_worthSum, .int m_upToDate])), (mq1, .inl (cI, 100, .inl m_gains)), (mq2, .inl (cI, 11264, .inl m_best)), (mq3, .inl (cI, 10, .inl m_chosen)), (mq4, .inl (cI, 10, .inl m_pieceDuals)), (mq5, .inl (cI, 10, .inl m_orderDuals))] s.heap.size = A at hD ⊢
  have hA : ∀ q : Nat, s.heap.size ≤ q → A q := fun q h => by rw [← hAe]; exact Or.inr h
  have hS : va_S A s.heap s.heap [] := va_S.rf
  have hk0 := hts (.fieldLink R_S 29 "SurplusMatch" "uses" "LSurplusMatch$Uses;") (List.mem_cons_of_mem _ (w0 145 rfl))
  have hk1 : ∀ w ∈ w_S, w ∈ w_S_undo := fun w h => List.mem_cons_of_mem _ (i_S w h)
  have hl := lv_entry ([.ref sq, .int x1]) (n := 2) (Nat.le_of_ble_eq_true rfl)
  rw [lg_entry_eq]
  generalize (lg_sl ([.ref sq, .int x1]) ++ List.replicate (2 - (lg_sl ([.ref sq, .int x1])).length) Slot.unset).toArray = ls at hl ⊢
  have hl : lv_has ls 2 [(0, .ref sq), (1, .int x1)] := hl
  refine lv_aload_n hx hb d_S_undo_0 rfl (lv_at hl 0 rfl) ?_
  refine lv_iload_n hx hb d_S_undo_1 rfl (lv_at hl 1 rfl) ?_
  obtain ⟨z9, hc, hm⟩ := bd hm
  rcases z9 with k9 | ⟨⟩
  · dsimp only [tk] at hm
    cases hm
  · dsimp only [tk] at hm
    refine va_csv (W.runV (As := [.int x1]) (rest := []) ⟨hx, hb, hml, hown, hts⟩ (c_S_refuseUnknownPiece l dC dI cI sq pq pq1 pq2 pq3 pq4 oq oq1 oq2 oq3 oq4 sq3 sq4 uq uq1 hq hq1 hq2 mq mq1 mq2 mq3 mq4 mq5 p_thicks p_wides p_lengths p_grades p_count o_thicks o_wides o_lengths o_grades o_count s_cameOn s_told u_ordersOfPiece u_usedOrders h_orderOfPiece h_lastDay h_heldOrders m_gains m_best m_chosen m_pieceDuals m_orderDuals m_pieceCount m_orderCount m_pairs m_worthSum m_upToDate s_today s_cutOff s_agingOff s_saleAge x1 N () hc) (cwV 1 hts (gV (w0 406 rfl) (w0 407 rfl) (w0 12 rfl) (w0 28 rfl) (w0 408 rfl)) rfl rfl rfl q_S_refuseUnknownPiece ⟨Nat.le_of_ble_eq_true rfl, Nat.le_of_ble_eq_true rfl⟩) (ro_preV [0, 1, 2, 3, 4, 5, 6, 7, 8, 9, 10, 11, 12, 13, 14, 15, 16, 17, 18, 19, 20, 21, 22, 23] rfl hK hP hN 4 0 (R_S, F_S, 11) rfl rfl) rfl rfl hl.1 rfl (lv_room (Nat.le_of_ble_eq_true rfl)) d_S_undo_2 ⟨Nat.le_of_ble_eq_true rfl, Nat.le_of_ble_eq_true rfl⟩) (fun _ => ?_)
    refine lv_aload_n hx hb d_S_undo_5 rfl (lv_at hl 0 rfl) ?_
    refine va_get (D := (dC, dI)) (ci := 4) (v := .ref uq) (C := R_S) (T := F_S) (N := 11) hx hb hts hk1 hown hK hP 0 rfl rfl 4 (by decide) hk0 (fun _ h9 => h9) rfl d_S_undo_6 ?_
    refine lv_iload_n hx hb d_S_undo_9 rfl (lv_at hl 1 rfl) ?_
    obtain ⟨r2, hc, hm⟩ := bd hm
    try dsimp only at hm
    refine vp_callSi (W.runV (As := [.int x1]) (rest := []) ⟨hx, hb, hml, hown, hts⟩ (c_U_isPieceUsed l dC dI cI uq uq1 u_ordersOfPiece u_usedOrders x1 N r2 hc) (cwV 1 hts (gV (w0 193 rfl) (w0 194 rfl) (w0 195 rfl) (w0 30 rfl) (w0 196 rfl)) rfl rfl rfl q_U_isPieceUsed ⟨Nat.le_of_ble_eq_true rfl, Nat.le_of_ble_eq_true rfl⟩) (ro_preV [13, 14] rfl hK hP hN 1 0 (R_U, F_U, 2) rfl rfl) rfl rfl hl.1 rfl (lv_room (Nat.le_of_ble_eq_true rfl)) d_S_undo_10 ⟨Nat.le_of_ble_eq_true rfl, Nat.le_of_ble_eq_true rfl⟩) (fun r9 hr9 => ?_)
    subst hr9
    refine lv_if_ne (tgt := 26) hx hb d_S_undo_13 (by decide) (fun c9 => ?_) (fun c9 => ?_)
    · replace hm := if_f c9 hm
      refine lv_aload_n hx hb d_S_undo_26 rfl (lv_at hl 0 rfl) ?_
      refine va_get (D := (dC, dI)) (ci := 4) (v := .ref uq) (C := R_S) (T := F_S) (N := 11) hx hb hts hk1 hown hK hP 0 rfl rfl 4 (by decide) hk0 (fun _ h9 => h9) rfl d_S_undo_27 ?_
      refine lv_iload_n hx hb d_S_undo_30 rfl (lv_at hl 1 rfl) ?_
      obtain ⟨⟨u4, u5⟩, hc, hm⟩ := bd hm
      try dsimp only at hm
      have hPc := hP.sub (ws' := [(uq, .inr (1, [.ref uq1, .int u_usedOrders])), (uq1, .inl (cI, 10, .inl u_ordersOfPiece))]) [13, 14] rfl
      have hDc := hD.sub (ws' := [(uq, .inr (1, [.ref uq1, .int u_usedOrders])), (uq1, .inl (cI, 10, .inl u_ordersOfPiece))]) [13, 14] (by decide) rfl
      have hFc := va_free (wc := [(uq, .inr (1, [.ref uq1, .int u_usedOrders])), (uq1, .inl (cI, 10, .inl u_ordersOfPiece))]) hD hS hA [13, 14] rfl
      refine va_callv (va_runV (As := [.int x1]) (rest := []) ⟨hx, hb, hml, hown, hts⟩ (c_U_free l dC dI cI uq uq1 s.heap.size u_ordersOfPiece u_usedOrders x1 N (u4, u5) hc) (cwV 1 hts (gV (w0 561 rfl) (w0 562 rfl) (w0 563 rfl) (w0 30 rfl) (w0 564 rfl)) rfl rfl rfl q_U_free ⟨Nat.le_of_ble_eq_true rfl, Nat.le_of_ble_eq_true rfl⟩) (wr_preV hK hPc hDc hN 1 0 (R_U, F_U, 2) rfl rfl) rfl rfl hl.1 rfl (lv_room (Nat.le_of_ble_eq_true rfl)) d_S_undo_31 ⟨Nat.le_of_ble_eq_true rfl, Nat.le_of_ble_eq_true rfl⟩) hS (fun q _ h => hFc q h) hFc (fun u t H1 locs ht hvm hw hB hz1 hk1 hS => ?_)
      obtain ⟨hP1, hK1, hD1⟩ := hB
      rw [ht] at hP1
      obtain ⟨hP, hD⟩ := va_join (wr := [(sq, .inr (4, [.ref pq, .ref oq, .ref sq3, .ref sq4, .ref uq, .ref hq, .ref mq, .int s_today, .int s_cutOff, .int s_agingOff, .int s_saleAge])), (pq, .inr (0, [.ref pq1, .ref pq2, .ref pq3, .ref pq4, .int p_count])), (pq1, .inl (cI, 10, .inl p_thicks)), (pq2, .inl (cI, 10, .inl p_wides)), (pq3, .inl (cI, 10, .inl p_lengths)), (pq4, .inl (cI, 10, .inl p_grades)), (oq, .inr (0, [.ref oq1, .ref oq2, .ref oq3, .ref oq4, .int o_count])), (oq1, .inl (cI, 10, .inl o_thicks)), (oq2, .inl (cI, 10, .inl o_wides)), (oq3, .inl (cI, 10, .inl o_lengths)), (oq4, .inl (cI, 10, .inl o_grades)), (sq3, .inl (cI, 10, .inl s_cameOn)), (sq4, .inl (cI, 100, .inl s_told)), (hq, .inr (2, [.ref hq1, .ref hq2, .int h_heldOrders])), (hq1, .inl (cI, 10, .inl h_orderOfPiece)), (hq2, .inl (cI, 10, .inl h_lastDay)), (mq, .inr (3, [.ref mq1, .ref mq2, .ref mq3, .ref mq4, .ref mq5, .int m_pieceCount, .int m_orderCount, .int m_pairs, .int m_worthSum, .int m_upToDate])), (mq1, .inl (cI, 100, .inl m_gains)), (mq2, .inl (cI, 11264, .inl m_best)), (mq3, .inl (cI, 10, .inl m_chosen)), (mq4, .inl (cI, 10, .inl m_pieceDuals)), (mq5, .inl (cI, 10, .inl m_orderDuals))]) (w1 := [(uq, .inr (1, [.ref uq1, .int u5])), (uq1, .inl (cI, 10, .inl u4))]) hP hD [13, 14] [0, 1, 2, 3, 4, 5, 6, 7, 8, 9, 10, 11, 12, 15, 16, 17, 18, 19, 20, 21, 22, 23] rfl rfl (by decide) (by decide) hk1 hFc hP1 hD1
      generalize H1 = H at hP hS ⊢
      have hP : va_P (dC, dI) classes [(sq, .inr (4, [.ref pq, .ref oq, .ref sq3, .ref sq4, .ref uq, .ref hq, .ref mq, .int s_today, .int s_cutOff, .int s_agingOff, .int s_saleAge])), (pq, .inr (0, [.ref pq1, .ref pq2, .ref pq3, .ref pq4, .int p_count])), (pq1, .inl (cI, 10, .inl p_thicks)), (pq2, .inl (cI, 10, .inl p_wides)), (pq3, .inl (cI, 10, .inl p_lengths)), (pq4, .inl (cI, 10, .inl p_grades)), (oq, .inr (0, [.ref oq1, .ref oq2, .ref oq3, .ref oq4, .int o_count])), (oq1, .inl (cI, 10, .inl o_thicks)), (oq2, .inl (cI, 10, .inl o_wides)), (oq3, .inl (cI, 10, .inl o_lengths)), (oq4, .inl (cI, 10, .inl o_grades)), (sq3, .inl (cI, 10, .inl s_cameOn)), (sq4, .inl (cI, 100, .inl s_told)), (hq, .inr (2, [.ref hq1, .ref hq2, .int h_heldOrders])), (hq1, .inl (cI, 10, .inl h_orderOfPiece)), (hq2, .inl (cI, 10, .inl h_lastDay)), (mq, .inr (3, [.ref mq1, .ref mq2, .ref mq3, .ref mq4, .ref mq5, .int m_pieceCount, .int m_orderCount, .int m_pairs, .int m_worthSum, .int m_upToDate])), (mq1, .inl (cI, 100, .inl m_gains)), (mq2, .inl (cI, 11264, .inl m_best)), (mq3, .inl (cI, 10, .inl m_chosen)), (mq4, .inl (cI, 10, .inl m_pieceDuals)), (mq5, .inl (cI, 10, .inl m_orderDuals)), (uq, .inr (1, [.ref uq1, .int u5])), (uq1, .inl (cI, 10, .inl u4))] H := hP
      have hD : va_D A [(sq, .inr (4, [.ref pq, .ref oq, .ref sq3, .ref sq4, .ref uq, .ref hq, .ref mq, .int s_today, .int s_cutOff, .int s_agingOff, .int s_saleAge])), (pq, .inr (0, [.ref pq1, .ref pq2, .ref pq3, .ref pq4, .int p_count])), (pq1, .inl (cI, 10, .inl p_thicks)), (pq2, .inl (cI, 10, .inl p_wides)), (pq3, .inl (cI, 10, .inl p_lengths)), (pq4, .inl (cI, 10, .inl p_grades)), (oq, .inr (0, [.ref oq1, .ref oq2, .ref oq3, .ref oq4, .int o_count])), (oq1, .inl (cI, 10, .inl o_thicks)), (oq2, .inl (cI, 10, .inl o_wides)), (oq3, .inl (cI, 10, .inl o_lengths)), (oq4, .inl (cI, 10, .inl o_grades)), (sq3, .inl (cI, 10, .inl s_cameOn)), (sq4, .inl (cI, 100, .inl s_told)), (hq, .inr (2, [.ref hq1, .ref hq2, .int h_heldOrders])), (hq1, .inl (cI, 10, .inl h_orderOfPiece)), (hq2, .inl (cI, 10, .inl h_lastDay)), (mq, .inr (3, [.ref mq1, .ref mq2, .ref mq3, .ref mq4, .ref mq5, .int m_pieceCount, .int m_orderCount, .int m_pairs, .int m_worthSum, .int m_upToDate])), (mq1, .inl (cI, 100, .inl m_gains)), (mq2, .inl (cI, 11264, .inl m_best)), (mq3, .inl (cI, 10, .inl m_chosen)), (mq4, .inl (cI, 10, .inl m_pieceDuals)), (mq5, .inl (cI, 10, .inl m_orderDuals)), (uq, .inr (1, [.ref uq1, .int u5])), (uq1, .inl (cI, 10, .inl u4))] := hD
      clear hP1 hD1 hPc hDc hFc hk1 hz1
      cases hm
      have hP := hP.sub (ws' := [(sq, .inr (4, [.ref pq, .ref oq, .ref sq3, .ref sq4, .ref uq, .ref hq, .ref mq, .int s_today, .int s_cutOff, .int s_agingOff, .int s_saleAge])), (pq, .inr (0, [.ref pq1, .ref pq2, .ref pq3, .ref pq4, .int p_count])), (pq1, .inl (cI, 10, .inl p_thicks)), (pq2, .inl (cI, 10, .inl p_wides)), (pq3, .inl (cI, 10, .inl p_lengths)), (pq4, .inl (cI, 10, .inl p_grades)), (oq, .inr (0, [.ref oq1, .ref oq2, .ref oq3, .ref oq4, .int o_count])), (oq1, .inl (cI, 10, .inl o_thicks)), (oq2, .inl (cI, 10, .inl o_wides)), (oq3, .inl (cI, 10, .inl o_lengths)), (oq4, .inl (cI, 10, .inl o_grades)), (sq3, .inl (cI, 10, .inl s_cameOn)), (sq4, .inl (cI, 100, .inl s_told)), (uq, .inr (1, [.ref uq1, .int u5])), (uq1, .inl (cI, 10, .inl u4)), (hq, .inr (2, [.ref hq1, .ref hq2, .int h_heldOrders])), (hq1, .inl (cI, 10, .inl h_orderOfPiece)), (hq2, .inl (cI, 10, .inl h_lastDay)), (mq, .inr (3, [.ref mq1, .ref mq2, .ref mq3, .ref mq4, .ref mq5, .int m_pieceCount, .int m_orderCount, .int m_pairs, .int m_worthSum, .int m_upToDate])), (mq1, .inl (cI, 100, .inl m_gains)), (mq2, .inl (cI, 11264, .inl m_best)), (mq3, .inl (cI, 10, .inl m_chosen)), (mq4, .inl (cI, 10, .inl m_pieceDuals)), (mq5, .inl (cI, 10, .inl m_orderDuals))]) [0, 1, 2, 3, 4, 5, 6, 7, 8, 9, 10, 11, 12, 22, 23, 13, 14, 15, 16, 17, 18, 19, 20, 21] rfl
      have hD := hD.sub (ws' := [(sq, .inr (4, [.ref pq, .ref oq, .ref sq3, .ref sq4, .ref uq, .ref hq, .ref mq, .int s_today, .int s_cutOff, .int s_agingOff, .int s_saleAge])), (pq, .inr (0, [.ref pq1, .ref pq2, .ref pq3, .ref pq4, .int p_count])), (pq1, .inl (cI, 10, .inl p_thicks)), (pq2, .inl (cI, 10, .inl p_wides)), (pq3, .inl (cI, 10, .inl p_lengths)), (pq4, .inl (cI, 10, .inl p_grades)), (oq, .inr (0, [.ref oq1, .ref oq2, .ref oq3, .ref oq4, .int o_count])), (oq1, .inl (cI, 10, .inl o_thicks)), (oq2, .inl (cI, 10, .inl o_wides)), (oq3, .inl (cI, 10, .inl o_lengths)), (oq4, .inl (cI, 10, .inl o_grades)), (sq3, .inl (cI, 10, .inl s_cameOn)), (sq4, .inl (cI, 100, .inl s_told)), (uq, .inr (1, [.ref uq1, .int u5])), (uq1, .inl (cI, 10, .inl u4)), (hq, .inr (2, [.ref hq1, .ref hq2, .int h_heldOrders])), (hq1, .inl (cI, 10, .inl h_orderOfPiece)), (hq2, .inl (cI, 10, .inl h_lastDay)), (mq, .inr (3, [.ref mq1, .ref mq2, .ref mq3, .ref mq4, .ref mq5, .int m_pieceCount, .int m_orderCount, .int m_pairs, .int m_worthSum, .int m_upToDate])), (mq1, .inl (cI, 100, .inl m_gains)), (mq2, .inl (cI, 11264, .inl m_best)), (mq3, .inl (cI, 10, .inl m_chosen)), (mq4, .inl (cI, 10, .inl m_pieceDuals)), (mq5, .inl (cI, 10, .inl m_orderDuals))]) [0, 1, 2, 3, 4, 5, 6, 7, 8, 9, 10, 11, 12, 22, 23, 13, 14, 15, 16, 17, 18, 19, 20, 21] (by decide) rfl
      refine W.widen (k := 0) (n := 0) (Nat.le_of_ble_eq_true rfl) (Nat.le_of_ble_eq_true rfl) ?_
      exact W.vret hx hb hr (fun t ht hW => ⟨⟨(), rfl, trivial, by rw [ht]; exact hP, va_K.moved hW.alike hK, hD⟩, hS.F ht⟩) hS.2.2 d_S_undo_34
    · replace hm := if_t c9 hm
      cases hm
set_option maxHeartbeats 4000000 in
set_option maxRecDepth 100000 in
theorem x_S_undo (l : Launch) (dC : Nat → ClassId) (dI : Nat → Nat → Nat) (cI : ClassId) (sq pq pq1 pq2 pq3 pq4 oq oq1 oq2 oq3 oq4 sq3 sq4 uq uq1 hq hq1 hq2 mq mq1 mq2 mq3 mq4 mq5 : Nat) (sz : Nat) (p_thicks : Nat → Int32) (p_wides : Nat → Int32) (p_lengths : Nat → Int32) (p_grades : Nat → Int32) (p_count : Int32) (o_thicks : Nat → Int32) (o_wides : Nat → Int32) (o_lengths : Nat → Int32) (o_grades : Nat → Int32) (o_count : Int32) (s_cameOn : Nat → Int32) (s_told : Nat → Int32) (u_ordersOfPiece : Nat → Int32) (u_usedOrders : Int32) (h_orderOfPiece : Nat → Int32) (h_lastDay : Nat → Int32) (h_heldOrders : Int32) (m_gains : Nat → Int32) (m_best : Nat → Int32) (m_chosen : Nat → Int32) (m_pieceDuals : Nat → Int32) (m_orderDuals : Nat → Int32) (m_pieceCount : Int32) (m_orderCount : Int32) (m_pairs : Int32) (m_worthSum : Int32) (m_upToDate : Int32) (s_today : Int32) (s_cutOff : Int32) (s_agingOff : Int32) (s_saleAge : Int32) (x1 : Int32) (N : Nat) (k : Nat) (hst : l.stackTraces = false) (hm : m_S_undo p_count u_ordersOfPiece u_usedOrders x1 = some (.inl k)) : xt_Met l y_S_undo w_S_undo ({ frames := 7, cells := 1, slots := 6, locals := 117 } : Room) (va_Pc [.ref sq, .int x1] (fun U => U.heap.size = sz ∧ va_P (dC, dI) classes [(sq, .inr (4, [.ref pq, .ref oq, .ref sq3, .ref sq4, .ref uq, .ref hq, .ref mq, .int s_today, .int s_cutOff, .int s_agingOff, .int s_saleAge])), (pq, .inr (0, [.ref pq1, .ref pq2, .ref pq3, .ref pq4, .int p_count])), (pq1, .inl (cI, 10, .inl p_thicks)), (pq2, .inl (cI, 10, .inl p_wides)), (pq3, .inl (cI, 10, .inl p_lengths)), (pq4, .inl (cI, 10, .inl p_grades)), (oq, .inr (0, [.ref oq1, .ref oq2, .ref oq3, .ref oq4, .int o_count])), (oq1, .inl (cI, 10, .inl o_thicks)), (oq2, .inl (cI, 10, .inl o_wides)), (oq3, .inl (cI, 10, .inl o_lengths)), (oq4, .inl (cI, 10, .inl o_grades)), (sq3, .inl (cI, 10, .inl s_cameOn)), (sq4, .inl (cI, 100, .inl s_told)), (uq, .inr (1, [.ref uq1, .int u_usedOrders])), (uq1, .inl (cI, 10, .inl u_ordersOfPiece)), (hq, .inr (2, [.ref hq1, .ref hq2, .int h_heldOrders])), (hq1, .inl (cI, 10, .inl h_orderOfPiece)), (hq2, .inl (cI, 10, .inl h_lastDay)), (mq, .inr (3, [.ref mq1, .ref mq2, .ref mq3, .ref mq4, .ref mq5, .int m_pieceCount, .int m_orderCount, .int m_pairs, .int m_worthSum, .int m_upToDate])), (mq1, .inl (cI, 100, .inl m_gains)), (mq2, .inl (cI, 11264, .inl m_best)), (mq3, .inl (cI, 10, .inl m_chosen)), (mq4, .inl (cI, 10, .inl m_pieceDuals)), (mq5, .inl (cI, 10, .inl m_orderDuals))] U.heap ∧ va_K (dC, dI) classes [(cI, .int)] U ∧ va_D (fun _ => True) [(sq, .inr (4, [.ref pq, .ref oq, .ref sq3, .ref sq4, .ref uq, .ref hq, .ref mq, .int s_today, .int s_cutOff, .int s_agingOff, .int s_saleAge])), (pq, .inr (0, [.ref pq1, .ref pq2, .ref pq3, .ref pq4, .int p_count])), (pq1, .inl (cI, 10, .inl p_thicks)), (pq2, .inl (cI, 10, .inl p_wides)), (pq3, .inl (cI, 10, .inl p_lengths)), (pq4, .inl (cI, 10, .inl p_grades)), (oq, .inr (0, [.ref oq1, .ref oq2, .ref oq3, .ref oq4, .int o_count])), (oq1, .inl (cI, 10, .inl o_thicks)), (oq2, .inl (cI, 10, .inl o_wides)), (oq3, .inl (cI, 10, .inl o_lengths)), (oq4, .inl (cI, 10, .inl o_grades)), (sq3, .inl (cI, 10, .inl s_cameOn)), (sq4, .inl (cI, 100, .inl s_told)), (uq, .inr (1, [.ref uq1, .int u_usedOrders])), (uq1, .inl (cI, 10, .inl u_ordersOfPiece)), (hq, .inr (2, [.ref hq1, .ref hq2, .int h_heldOrders])), (hq1, .inl (cI, 10, .inl h_orderOfPiece)), (hq2, .inl (cI, 10, .inl h_lastDay)), (mq, .inr (3, [.ref mq1, .ref mq2, .ref mq3, .ref mq4, .ref mq5, .int m_pieceCount, .int m_orderCount, .int m_pairs, .int m_worthSum, .int m_upToDate])), (mq1, .inl (cI, 100, .inl m_gains)), (mq2, .inl (cI, 11264, .inl m_best)), (mq3, .inl (cI, 10, .inl m_chosen)), (mq4, .inl (cI, 10, .inl m_pieceDuals)), (mq5, .inl (cI, 10, .inl m_orderDuals))] ∧ nw U ∧ xE xTx U U.heap)) (xn k) := by
  unfold m_S_undo at hm
  refine xt_ofW (cc := b_S_undo) (maxL := 2) (ret := none) (by decide) rfl ?_
  intro p e s m args below meth c s₁ B hml hout hv
  obtain ⟨rfl, hsz, hP, hK, hD0, hN, hE⟩ := hv
  have hx := B.exec
  have hb := B.bytes
  have hr := B.returns
  have hts := atoms_spec (ws := w_S_undo) B.pre
  have hown : s.vm.findClass R_S = some m.cls := findClass_of_methodNamed B.named
  have hlocks := B.notSynchronized
  subst hsz
  have hD := hD0.self (sz := s.heap.size)
  generalize hAe : va_A [(sq, .inr (4, [.ref pq, .ref oq, .ref sq3, .ref sq4, .ref uq, .ref hq, .ref mq, .int s_today, .int s_cutOff, .int s_agingOff, .int s_saleAge])), (pq, .inr (0, [.ref pq1, .ref pq2, .ref pq3, .ref pq4, .int p_count])), (pq1, .inl (cI, 10, .inl p_thicks)), (pq2, .inl (cI, 10, .inl p_wides)), (pq3, .inl (cI, 10, .inl p_lengths)), (pq4, .inl (cI, 10, .inl p_grades)), (oq, .inr (0, [.ref oq1, .ref oq2, .ref oq3, .ref oq4, .int o_count])), (oq1, .inl (cI, 10, .inl o_thicks)), (oq2, .inl (cI, 10, .inl o_wides)), (oq3, .inl (cI, 10, .inl o_lengths)), (oq4, .inl (cI, 10, .inl o_grades)), (sq3, .inl (cI, 10, .inl s_cameOn)), (sq4, .inl (cI, 100, .inl s_told)), (uq, .inr (1, [.ref uq1, .int u_usedOrders])), (uq1, .inl (cI, 10, .inl u_ordersOfPiece)), (hq, .inr (2, [.ref hq1, .ref hq2, .int h_heldOrders])), (hq1, .inl (cI, 10, .inl h_orderOfPiece)), (hq2, .inl (cI, 10, .inl h_lastDay)), (mq, .inr (3, [.ref mq1, .ref mq2, .ref mq3, .ref mq4, .ref mq5, .int m_pieceCount, .int m_orderCount, .int m_pairs, .int m_worthSum, .int m_upToDate])), (mq1, .inl (cI, 100, .inl m_gains)), (mq2, .inl (cI, 11264, .inl m_best)), (mq3, .inl (cI, 10, .inl m_chosen)), (mq4, .inl (cI, 10, .inl m_pieceDuals)), (mq5, .inl (cI, 10, .inl m_orderDuals))] s.heap.size = A at hD
  have hA : ∀ q : Nat, s.heap.size ≤ q → A q := fun q h => by rw [← hAe]; exact Or.inr h
  have hS : va_S A s.heap s.heap [] := va_S.rf
  have hk0 := hts (.fieldLink R_S 29 "SurplusMatch" "uses" "LSurplusMatch$Uses;") (List.mem_cons_of_mem _ (w0 145 rfl))
  have hk1 : ∀ w ∈ w_S, w ∈ w_S_undo := fun w h => List.mem_cons_of_mem _ (i_S w h)
  have hk2 := hts (.classLink R_S 145 "java/lang/IllegalStateException") (List.mem_cons_of_mem _ (w0 464 rfl))
  have hk3 := hts (.initialized "java/lang/IllegalStateException") (List.mem_cons_of_mem _ (w0 42 rfl))
  have hl := lv_entry ([.ref sq, .int x1]) (n := 2) (Nat.le_of_ble_eq_true rfl)
  rw [lg_entry_eq]
  generalize (lg_sl ([.ref sq, .int x1]) ++ List.replicate (2 - (lg_sl ([.ref sq, .int x1])).length) Slot.unset).toArray = ls at hl ⊢
  have hl : lv_has ls 2 [(0, .ref sq), (1, .int x1)] := hl
  refine lv_aload_n hx hb d_S_undo_0 rfl (lv_at hl 0 rfl) ?_
  refine lv_iload_n hx hb d_S_undo_1 rfl (lv_at hl 1 rfl) ?_
  obtain ⟨z9, hc, hm⟩ := bd hm
  rcases z9 with k9 | ⟨⟩
  · dsimp only [tk] at hm
    cases hm
    exact xt_runV (As := [.int x1]) (rest := []) ⟨hx, hb, hml, hown, hts⟩ (x_S_refuseUnknownPiece l dC dI cI sq pq pq1 pq2 pq3 pq4 oq oq1 oq2 oq3 oq4 sq3 sq4 uq uq1 hq hq1 hq2 mq mq1 mq2 mq3 mq4 mq5 p_thicks p_wides p_lengths p_grades p_count o_thicks o_wides o_lengths o_grades o_count s_cameOn s_told u_ordersOfPiece u_usedOrders h_orderOfPiece h_lastDay h_heldOrders m_gains m_best m_chosen m_pieceDuals m_orderDuals m_pieceCount m_orderCount m_pairs m_worthSum m_upToDate s_today s_cutOff s_agingOff s_saleAge x1 N _ hst hc) (cwV 1 hts (gV (w0 406 rfl) (w0 407 rfl) (w0 12 rfl) (w0 28 rfl) (w0 408 rfl)) rfl rfl rfl q_S_refuseUnknownPiece ⟨Nat.le_of_ble_eq_true rfl, Nat.le_of_ble_eq_true rfl⟩) (rx_preV [0, 1, 2, 3, 4, 5, 6, 7, 8, 9, 10, 11, 12, 13, 14, 15, 16, 17, 18, 19, 20, 21, 22, 23] rfl hK hP hN hE 4 0 (R_S, F_S, 11) rfl rfl) rfl rfl hl.1 rfl (lv_room (Nat.le_of_ble_eq_true rfl)) d_S_undo_2 ⟨Nat.le_of_ble_eq_true rfl, Nat.le_of_ble_eq_true rfl⟩ (fun q ce H1 hce hcv hcl hz hk => xt_out hout hlocks hce hcv hcl)
  · dsimp only [tk] at hm
    refine va_csv (W.runV (As := [.int x1]) (rest := []) ⟨hx, hb, hml, hown, hts⟩ (c_S_refuseUnknownPiece l dC dI cI sq pq pq1 pq2 pq3 pq4 oq oq1 oq2 oq3 oq4 sq3 sq4 uq uq1 hq hq1 hq2 mq mq1 mq2 mq3 mq4 mq5 p_thicks p_wides p_lengths p_grades p_count o_thicks o_wides o_lengths o_grades o_count s_cameOn s_told u_ordersOfPiece u_usedOrders h_orderOfPiece h_lastDay h_heldOrders m_gains m_best m_chosen m_pieceDuals m_orderDuals m_pieceCount m_orderCount m_pairs m_worthSum m_upToDate s_today s_cutOff s_agingOff s_saleAge x1 N () hc) (cwV 1 hts (gV (w0 406 rfl) (w0 407 rfl) (w0 12 rfl) (w0 28 rfl) (w0 408 rfl)) rfl rfl rfl q_S_refuseUnknownPiece ⟨Nat.le_of_ble_eq_true rfl, Nat.le_of_ble_eq_true rfl⟩) (ro_preV [0, 1, 2, 3, 4, 5, 6, 7, 8, 9, 10, 11, 12, 13, 14, 15, 16, 17, 18, 19, 20, 21, 22, 23] rfl hK hP hN 4 0 (R_S, F_S, 11) rfl rfl) rfl rfl hl.1 rfl (lv_room (Nat.le_of_ble_eq_true rfl)) d_S_undo_2 ⟨Nat.le_of_ble_eq_true rfl, Nat.le_of_ble_eq_true rfl⟩) (fun _ => ?_)
    refine lv_aload_n hx hb d_S_undo_5 rfl (lv_at hl 0 rfl) ?_
    refine va_get (D := (dC, dI)) (ci := 4) (v := .ref uq) (C := R_S) (T := F_S) (N := 11) hx hb hts hk1 hown hK hP 0 rfl rfl 4 (by decide) hk0 (fun _ h9 => h9) rfl d_S_undo_6 ?_
    refine lv_iload_n hx hb d_S_undo_9 rfl (lv_at hl 1 rfl) ?_
    obtain ⟨r2, hc, hm⟩ := bd hm
    try dsimp only at hm
    refine vp_callSi (W.runV (As := [.int x1]) (rest := []) ⟨hx, hb, hml, hown, hts⟩ (c_U_isPieceUsed l dC dI cI uq uq1 u_ordersOfPiece u_usedOrders x1 N r2 hc) (cwV 1 hts (gV (w0 193 rfl) (w0 194 rfl) (w0 195 rfl) (w0 30 rfl) (w0 196 rfl)) rfl rfl rfl q_U_isPieceUsed ⟨Nat.le_of_ble_eq_true rfl, Nat.le_of_ble_eq_true rfl⟩) (ro_preV [13, 14] rfl hK hP hN 1 0 (R_U, F_U, 2) rfl rfl) rfl rfl hl.1 rfl (lv_room (Nat.le_of_ble_eq_true rfl)) d_S_undo_10 ⟨Nat.le_of_ble_eq_true rfl, Nat.le_of_ble_eq_true rfl⟩) (fun r9 hr9 => ?_)
    subst hr9
    refine lv_if_ne (tgt := 26) hx hb d_S_undo_13 (by decide) (fun c9 => ?_) (fun c9 => ?_)
    · replace hm := if_f c9 hm
      refine lv_aload_n hx hb d_S_undo_26 rfl (lv_at hl 0 rfl) ?_
      refine va_get (D := (dC, dI)) (ci := 4) (v := .ref uq) (C := R_S) (T := F_S) (N := 11) hx hb hts hk1 hown hK hP 0 rfl rfl 4 (by decide) hk0 (fun _ h9 => h9) rfl d_S_undo_27 ?_
      refine lv_iload_n hx hb d_S_undo_30 rfl (lv_at hl 1 rfl) ?_
      obtain ⟨⟨u4, u5⟩, hc, hm⟩ := bd hm
      try dsimp only at hm
      have hPc := hP.sub (ws' := [(uq, .inr (1, [.ref uq1, .int u_usedOrders])), (uq1, .inl (cI, 10, .inl u_ordersOfPiece))]) [13, 14] rfl
      have hDc := hD.sub (ws' := [(uq, .inr (1, [.ref uq1, .int u_usedOrders])), (uq1, .inl (cI, 10, .inl u_ordersOfPiece))]) [13, 14] (by decide) rfl
      have hFc := va_free (wc := [(uq, .inr (1, [.ref uq1, .int u_usedOrders])), (uq1, .inl (cI, 10, .inl u_ordersOfPiece))]) hD hS hA [13, 14] rfl
      refine va_callv (va_runV (As := [.int x1]) (rest := []) ⟨hx, hb, hml, hown, hts⟩ (c_U_free l dC dI cI uq uq1 s.heap.size u_ordersOfPiece u_usedOrders x1 N (u4, u5) hc) (cwV 1 hts (gV (w0 561 rfl) (w0 562 rfl) (w0 563 rfl) (w0 30 rfl) (w0 564 rfl)) rfl rfl rfl q_U_free ⟨Nat.le_of_ble_eq_true rfl, Nat.le_of_ble_eq_true rfl⟩) (wr_preV hK hPc hDc hN 1 0 (R_U, F_U, 2) rfl rfl) rfl rfl hl.1 rfl (lv_room (Nat.le_of_ble_eq_true rfl)) d_S_undo_31 ⟨Nat.le_of_ble_eq_true rfl, Nat.le_of_ble_eq_true rfl⟩) hS (fun q _ h => hFc q h) hFc (fun u t H1 locs ht hvm hw hB hz1 hk1 hS => ?_)
      obtain ⟨hP1, hK1, hD1⟩ := hB
      rw [ht] at hP1
      obtain ⟨hP, hD⟩ := va_join (wr := [(sq, .inr (4, [.ref pq, .ref oq, .ref sq3, .ref sq4, .ref uq, .ref hq, .ref mq, .int s_today, .int s_cutOff, .int s_agingOff, .int s_saleAge])), (pq, .inr (0, [.ref pq1, .ref pq2, .ref pq3, .ref pq4, .int p_count])), (pq1, .inl (cI, 10, .inl p_thicks)), (pq2, .inl (cI, 10, .inl p_wides)), (pq3, .inl (cI, 10, .inl p_lengths)), (pq4, .inl (cI, 10, .inl p_grades)), (oq, .inr (0, [.ref oq1, .ref oq2, .ref oq3, .ref oq4, .int o_count])), (oq1, .inl (cI, 10, .inl o_thicks)), (oq2, .inl (cI, 10, .inl o_wides)), (oq3, .inl (cI, 10, .inl o_lengths)), (oq4, .inl (cI, 10, .inl o_grades)), (sq3, .inl (cI, 10, .inl s_cameOn)), (sq4, .inl (cI, 100, .inl s_told)), (hq, .inr (2, [.ref hq1, .ref hq2, .int h_heldOrders])), (hq1, .inl (cI, 10, .inl h_orderOfPiece)), (hq2, .inl (cI, 10, .inl h_lastDay)), (mq, .inr (3, [.ref mq1, .ref mq2, .ref mq3, .ref mq4, .ref mq5, .int m_pieceCount, .int m_orderCount, .int m_pairs, .int m_worthSum, .int m_upToDate])), (mq1, .inl (cI, 100, .inl m_gains)), (mq2, .inl (cI, 11264, .inl m_best)), (mq3, .inl (cI, 10, .inl m_chosen)), (mq4, .inl (cI, 10, .inl m_pieceDuals)), (mq5, .inl (cI, 10, .inl m_orderDuals))]) (w1 := [(uq, .inr (1, [.ref uq1, .int u5])), (uq1, .inl (cI, 10, .inl u4))]) hP hD [13, 14] [0, 1, 2, 3, 4, 5, 6, 7, 8, 9, 10, 11, 12, 15, 16, 17, 18, 19, 20, 21, 22, 23] rfl rfl (by decide) (by decide) hk1 hFc hP1 hD1
      generalize H1 = H at hP hS ⊢
      have hP : va_P (dC, dI) classes [(sq, .inr (4, [.ref pq, .ref oq, .ref sq3, .ref sq4, .ref uq, .ref hq, .ref mq, .int s_today, .int s_cutOff, .int s_agingOff, .int s_saleAge])), (pq, .inr (0, [.ref pq1, .ref pq2, .ref pq3, .ref pq4, .int p_count])), (pq1, .inl (cI, 10, .inl p_thicks)), (pq2, .inl (cI, 10, .inl p_wides)), (pq3, .inl (cI, 10, .inl p_lengths)), (pq4, .inl (cI, 10, .inl p_grades)), (oq, .inr (0, [.ref oq1, .ref oq2, .ref oq3, .ref oq4, .int o_count])), (oq1, .inl (cI, 10, .inl o_thicks)), (oq2, .inl (cI, 10, .inl o_wides)), (oq3, .inl (cI, 10, .inl o_lengths)), (oq4, .inl (cI, 10, .inl o_grades)), (sq3, .inl (cI, 10, .inl s_cameOn)), (sq4, .inl (cI, 100, .inl s_told)), (hq, .inr (2, [.ref hq1, .ref hq2, .int h_heldOrders])), (hq1, .inl (cI, 10, .inl h_orderOfPiece)), (hq2, .inl (cI, 10, .inl h_lastDay)), (mq, .inr (3, [.ref mq1, .ref mq2, .ref mq3, .ref mq4, .ref mq5, .int m_pieceCount, .int m_orderCount, .int m_pairs, .int m_worthSum, .int m_upToDate])), (mq1, .inl (cI, 100, .inl m_gains)), (mq2, .inl (cI, 11264, .inl m_best)), (mq3, .inl (cI, 10, .inl m_chosen)), (mq4, .inl (cI, 10, .inl m_pieceDuals)), (mq5, .inl (cI, 10, .inl m_orderDuals)), (uq, .inr (1, [.ref uq1, .int u5])), (uq1, .inl (cI, 10, .inl u4))] H := hP
      have hD : va_D A [(sq, .inr (4, [.ref pq, .ref oq, .ref sq3, .ref sq4, .ref uq, .ref hq, .ref mq, .int s_today, .int s_cutOff, .int s_agingOff, .int s_saleAge])), (pq, .inr (0, [.ref pq1, .ref pq2, .ref pq3, .ref pq4, .int p_count])), (pq1, .inl (cI, 10, .inl p_thicks)), (pq2, .inl (cI, 10, .inl p_wides)), (pq3, .inl (cI, 10, .inl p_lengths)), (pq4, .inl (cI, 10, .inl p_grades)), (oq, .inr (0, [.ref oq1, .ref oq2, .ref oq3, .ref oq4, .int o_count])), (oq1, .inl (cI, 10, .inl o_thicks)), (oq2, .inl (cI, 10, .inl o_wides)), (oq3, .inl (cI, 10, .inl o_lengths)), (oq4, .inl (cI, 10, .inl o_grades)), (sq3, .inl (cI, 10, .inl s_cameOn)), (sq4, .inl (cI, 100, .inl s_told)), (hq, .inr (2, [.ref hq1, .ref hq2, .int h_heldOrders])), (hq1, .inl (cI, 10, .inl h_orderOfPiece)), (hq2, .inl (cI, 10, .inl h_lastDay)), (mq, .inr (3, [.ref mq1, .ref mq2, .ref mq3, .ref mq4, .ref mq5, .int m_pieceCount, .int m_orderCount, .int m_pairs, .int m_worthSum, .int m_upToDate])), (mq1, .inl (cI, 100, .inl m_gains)), (mq2, .inl (cI, 11264, .inl m_best)), (mq3, .inl (cI, 10, .inl m_chosen)), (mq4, .inl (cI, 10, .inl m_pieceDuals)), (mq5, .inl (cI, 10, .inl m_orderDuals)), (uq, .inr (1, [.ref uq1, .int u5])), (uq1, .inl (cI, 10, .inl u4))] := hD
      clear hP1 hD1 hPc hDc hFc hk1 hz1
      cases hm
    · replace hm := if_t c9 hm
      cases hm
      obtain ⟨sa, hsa⟩ := hE.2.2.2.2 (201, "the piece is not used") (List.mem_of_getElem? (i := 11) rfl)
      exact xt_throw (cls := "java/lang/IllegalStateException") (names := xnm) hx hb hst hown (by decide +kernel) xnm_fit hk2 hk3 hsa (hat_1 hts hE) (hl.1.trans hml.symm) d_S_undo_16 d_S_undo_19 d_S_undo_20 d_S_undo_22 d_S_undo_25 hout (Nat.le_of_ble_eq_true rfl) (Nat.le_of_ble_eq_true rfl) (Nat.le_of_ble_eq_true rfl) (Nat.le_of_ble_eq_true rfl) hlocks

def w_S_sale : List Cond := .code y_S_sale b_S_sale 4 (some .int) :: W0
theorem q_S_sale : y_S_sale.cls = R_S ∧ y_S_sale.cls ≠ "java/lang/invoke/MethodHandle" ∧ y_S_sale.cls ≠ "java/lang/invoke/VarHandle" ∧ (parseMethodDescriptor y_S_sale.desc).map (fun d => d.parameters.length) = some 1 := by decide +kernel
def L_S_sale_8 (N : Nat) (p_count : Int32) (s_cameOn : Nat → Int32) (u_ordersOfPiece : Nat → Int32) (h_orderOfPiece : Nat → Int32) (s_today : Int32) (s_saleAge : Int32) (K : Int32 → Int32 → Int32 → Option (Nat ⊕ Int32)) : Nat → Int32 → Int32 → Int32 → Option (Nat ⊕ Int32)
  | 0, _, _, _ => none
  | n + 1, y1a, y2a, y3a =>
    ((m_B_size p_count).bind fun r2 =>
    (if r2 ≤ y3a then
      K y1a y2a y3a
     else
      ((m_S_isForSale s_cameOn u_ordersOfPiece h_orderOfPiece s_today s_saleAge y3a).bind fun r3 =>
        (if r3 = 0 then
          L_S_sale_8 N p_count s_cameOn u_ordersOfPiece h_orderOfPiece s_today s_saleAge K n y1a y2a (y3a + 1)
         else
          (if y2a = y1a then
            some (.inr y3a)
           else
            L_S_sale_8 N p_count s_cameOn u_ordersOfPiece h_orderOfPiece s_today s_saleAge K n y1a (y2a + 1) (y3a + 1))))))
def m_S_sale (N : Nat) (p_count : Int32) (s_cameOn : Nat → Int32) (u_ordersOfPiece : Nat → Int32) (h_orderOfPiece : Nat → Int32) (s_today : Int32) (s_saleAge : Int32) (x1 : Int32) : Option (Nat ⊕ Int32) :=
  ((m_S_refuseNegative x1).bind (tk fun _ =>
  L_S_sale_8 N p_count s_cameOn u_ordersOfPiece h_orderOfPiece s_today s_saleAge (fun y1a y2a y3a =>
    some (.inr (-1))) N x1 0 0))
set_option maxHeartbeats 4000000 in
set_option maxRecDepth 100000 in
theorem c_S_sale (l : Launch) (dC : Nat → ClassId) (dI : Nat → Nat → Nat) (cI : ClassId) (sq pq pq1 pq2 pq3 pq4 oq oq1 oq2 oq3 oq4 sq3 sq4 uq uq1 hq hq1 hq2 mq mq1 mq2 mq3 mq4 mq5 : Nat) (p_thicks : Nat → Int32) (p_wides : Nat → Int32) (p_lengths : Nat → Int32) (p_grades : Nat → Int32) (p_count : Int32) (o_thicks : Nat → Int32) (o_wides : Nat → Int32) (o_lengths : Nat → Int32) (o_grades : Nat → Int32) (o_count : Int32) (s_cameOn : Nat → Int32) (s_told : Nat → Int32) (u_ordersOfPiece : Nat → Int32) (u_usedOrders : Int32) (h_orderOfPiece : Nat → Int32) (h_lastDay : Nat → Int32) (h_heldOrders : Int32) (m_gains : Nat → Int32) (m_best : Nat → Int32) (m_chosen : Nat → Int32) (m_pieceDuals : Nat → Int32) (m_orderDuals : Nat → Int32) (m_pieceCount : Int32) (m_orderCount : Int32) (m_pairs : Int32) (m_worthSum : Int32) (m_upToDate : Int32) (s_today : Int32) (s_cutOff : Int32) (s_agingOff : Int32) (s_saleAge : Int32) (x1 : Int32) (N : Nat) (res : Int32) (hm : m_S_sale N p_count s_cameOn u_ordersOfPiece h_orderOfPiece s_today s_saleAge x1 = some (.inr res)) : Met l y_S_sale w_S_sale ({ frames := 2, cells := 0, slots := 0, locals := 42 } : Room) (va_Pc [.ref sq, .int x1] (fun U => va_P (dC, dI) classes [(sq, .inr (4, [.ref pq, .ref oq, .ref sq3, .ref sq4, .ref uq, .ref hq, .ref mq, .int s_today, .int s_cutOff, .int s_agingOff, .int s_saleAge])), (pq, .inr (0, [.ref pq1, .ref pq2, .ref pq3, .ref pq4, .int p_count])), (pq1, .inl (cI, 10, .inl p_thicks)), (pq2, .inl (cI, 10, .inl p_wides)), (pq3, .inl (cI, 10, .inl p_lengths)), (pq4, .inl (cI, 10, .inl p_grades)), (oq, .inr (0, [.ref oq1, .ref oq2, .ref oq3, .ref oq4, .int o_count])), (oq1, .inl (cI, 10, .inl o_thicks)), (oq2, .inl (cI, 10, .inl o_wides)), (oq3, .inl (cI, 10, .inl o_lengths)), (oq4, .inl (cI, 10, .inl o_grades)), (sq3, .inl (cI, 10, .inl s_cameOn)), (sq4, .inl (cI, 100, .inl s_told)), (uq, .inr (1, [.ref uq1, .int u_usedOrders])), (uq1, .inl (cI, 10, .inl u_ordersOfPiece)), (hq, .inr (2, [.ref hq1, .ref hq2, .int h_heldOrders])), (hq1, .inl (cI, 10, .inl h_orderOfPiece)), (hq2, .inl (cI, 10, .inl h_lastDay)), (mq, .inr (3, [.ref mq1, .ref mq2, .ref mq3, .ref mq4, .ref mq5, .int m_pieceCount, .int m_orderCount, .int m_pairs, .int m_worthSum, .int m_upToDate])), (mq1, .inl (cI, 100, .inl m_gains)), (mq2, .inl (cI, 11264, .inl m_best)), (mq3, .inl (cI, 10, .inl m_chosen)), (mq4, .inl (cI, 10, .inl m_pieceDuals)), (mq5, .inl (cI, 10, .inl m_orderDuals))] U.heap ∧ va_K (dC, dI) classes [(cI, .int)] U ∧ nw U)) (vp_Si (fun x => res = x)) 0 0 (fun _ => False) := by
  unfold m_S_sale at hm
  refine Met.ofW (cc := b_S_sale) (maxL := 4) (ret := (some .int)) (by decide) rfl ?_
  intro p e s m args below meth c s₁ B hml hv
  obtain ⟨rfl, hP, hK, hN⟩ := hv
  have hx := B.exec
  have hb := B.bytes
  have hr := B.returns
  have hts := atoms_spec (ws := w_S_sale) B.pre
  have hown : s.vm.findClass R_S = some m.cls := findClass_of_methodNamed B.named
  have hlocks := B.notSynchronized
  have hk0 := hts (.fieldLink R_S 10 "SurplusMatch" "pieces" "LSurplusMatch$Boards;") (List.mem_cons_of_mem _ (w0 141 rfl))
  have hk1 : ∀ w ∈ w_S, w ∈ w_S_sale := fun w h => List.mem_cons_of_mem _ (i_S w h)
  have hl := lv_entry ([.ref sq, .int x1]) (n := 4) (Nat.le_of_ble_eq_true rfl)
  rw [lg_entry_eq]
  generalize (lg_sl ([.ref sq, .int x1]) ++ List.replicate (4 - (lg_sl ([.ref sq, .int x1])).length) Slot.unset).toArray = ls at hl ⊢
  have hl : lv_has ls 4 [(0, .ref sq), (1, .int x1)] := hl
  refine lv_iload_n hx hb d_S_sale_0 rfl (lv_at hl 1 rfl) ?_
  obtain ⟨z9, hc, hm⟩ := bd hm
  rcases z9 with k9 | ⟨⟩
  · dsimp only [tk] at hm
    cases hm
  · dsimp only [tk] at hm
    refine va_csv (W.runS (As := [.int x1]) (rest := []) ⟨hx, hb, hml, hown, hts⟩ (c_S_refuseNegative l dC dI cI x1 N () hc) (cwS 1 hts (gS (w0 524 rfl) (w0 525 rfl) (w0 28 rfl) (w0 526 rfl)) rfl rfl rfl q_S_refuseNegative ⟨Nat.le_of_ble_eq_true rfl, Nat.le_of_ble_eq_true rfl⟩) ro_pre0 rfl rfl hl.1 rfl (lv_room (Nat.le_of_ble_eq_true rfl)) d_S_sale_1 ⟨Nat.le_of_ble_eq_true rfl, Nat.le_of_ble_eq_true rfl⟩) (fun _ => ?_)
    refine lv_iconst (v := 0) hx hb d_S_sale_4 (by decide) ?_
    refine lv_istore_n (lv' := [(2, .int 0), (0, .ref sq), (1, .int x1)]) hx hb d_S_sale_5 rfl hl (by decide) rfl (fun ls hl => ?_)
    refine lv_iconst (v := 0) hx hb d_S_sale_6 (by decide) ?_
    refine lv_istore_n (lv' := [(3, .int 0), (2, .int 0), (0, .ref sq), (1, .int x1)]) hx hb d_S_sale_7 rfl hl (by decide) rfl (fun ls hl => ?_)
    have key8 : ∀ (K : Int32 → Int32 → Int32 → Option (Nat ⊕ Int32)) (_ : ∀ (y1a : Int32) (y2a : Int32) (y3a : Int32) (ls : Array Slot), lv_has ls 4 [(0, .ref sq), (1, .int y1a), (2, .int y2a), (3, .int y3a)] → K y1a y2a y3a = some (.inr res) → W p l e (headSpec w_S_sale ({ frames := 2, cells := 0, slots := 0, locals := 42 } : Room)).room s m ([.ref sq, .int x1] : List Value).toArray below meth c s.heap [] 0 0 (MQ below (vp_Si (fun x => res = x)) ([.ref sq, .int x1] : List Value).toArray s 0 0 (fun _ => False)) (F0 m 43 ls [])) (n : Nat) (y1a : Int32) (y2a : Int32) (y3a : Int32) (ls : Array Slot), lv_has ls 4 [(0, .ref sq), (1, .int y1a), (2, .int y2a), (3, .int y3a)] → L_S_sale_8 N p_count s_cameOn u_ordersOfPiece h_orderOfPiece s_today s_saleAge K n y1a y2a y3a = some (.inr res) → W p l e (headSpec w_S_sale ({ frames := 2, cells := 0, slots := 0, locals := 42 } : Room)).room s m ([.ref sq, .int x1] : List Value).toArray below meth c s.heap [] 0 0 (MQ below (vp_Si (fun x => res = x)) ([.ref sq, .int x1] : List Value).toArray s 0 0 (fun _ => False)) (F0 m 8 ls []) := by
      intro K hK8 n
      induction n with
      | zero => intro y1a y2a y3a ls hl hm; exact absurd hm (by simp [L_S_sale_8])
      | succ n ih8 =>
        intro y1a y2a y3a ls hl hm
        rw [L_S_sale_8] at hm
        refine lv_iload_n hx hb d_S_sale_8 rfl (lv_at hl 3 rfl) ?_
        refine lv_aload_n hx hb d_S_sale_9 rfl (lv_at hl 0 rfl) ?_
        refine va_get (D := (dC, dI)) (ci := 4) (v := .ref pq) (C := R_S) (T := F_S) (N := 11) hx hb hts hk1 hown hK hP 0 rfl rfl 0 (by decide) hk0 (fun _ h9 => h9) rfl d_S_sale_10 ?_
        obtain ⟨r2, hc, hm⟩ := bd hm
        try dsimp only at hm
        refine vp_callSi (W.runV (As := []) (rest := [.int y3a]) ⟨hx, hb, hml, hown, hts⟩ (c_B_size l dC dI cI pq pq1 pq2 pq3 pq4 p_thicks p_wides p_lengths p_grades p_count  N r2 hc) (cwV 0 hts (gV (w0 186 rfl) (w0 187 rfl) (w0 188 rfl) (w0 29 rfl) (w0 189 rfl)) rfl rfl rfl q_B_size ⟨Nat.le_of_ble_eq_true rfl, Nat.le_of_ble_eq_true rfl⟩) (ro_preV [1, 2, 3, 4, 5] rfl hK hP hN 0 0 (R_B, F_B, 5) rfl rfl) rfl rfl hl.1 rfl (lv_room (Nat.le_of_ble_eq_true rfl)) d_S_sale_13 ⟨Nat.le_of_ble_eq_true rfl, Nat.le_of_ble_eq_true rfl⟩) (fun r9 hr9 => ?_)
        subst hr9
        refine lv_icmp_ge (tgt := 43) hx hb d_S_sale_16 (by decide) (fun c9 => ?_) (fun c9 => ?_)
        · replace hm := if_t c9 hm
          have hl : lv_has ls 4 [(0, .ref sq), (1, .int y1a), (2, .int y2a), (3, .int y3a)] := lv_sub hl [0, 1, 2, 3] rfl
          exact hK8 y1a y2a y3a ls hl hm
        · replace hm := if_f c9 hm
          refine lv_aload_n hx hb d_S_sale_19 rfl (lv_at hl 0 rfl) ?_
          refine lv_iload_n hx hb d_S_sale_20 rfl (lv_at hl 3 rfl) ?_
          obtain ⟨r3, hc, hm⟩ := bd hm
          try dsimp only at hm
          refine vp_callSi (W.runV (As := [.int y3a]) (rest := []) ⟨hx, hb, hml, hown, hts⟩ (c_S_isForSale l dC dI cI sq pq pq1 pq2 pq3 pq4 oq oq1 oq2 oq3 oq4 sq3 sq4 uq uq1 hq hq1 hq2 mq mq1 mq2 mq3 mq4 mq5 p_thicks p_wides p_lengths p_grades p_count o_thicks o_wides o_lengths o_grades o_count s_cameOn s_told u_ordersOfPiece u_usedOrders h_orderOfPiece h_lastDay h_heldOrders m_gains m_best m_chosen m_pieceDuals m_orderDuals m_pieceCount m_orderCount m_pairs m_worthSum m_upToDate s_today s_cutOff s_agingOff s_saleAge y3a N r3 hc) (cwV 1 hts (gV (w0 572 rfl) (w0 573 rfl) (w0 17 rfl) (w0 28 rfl) (w0 574 rfl)) rfl rfl rfl q_S_isForSale ⟨Nat.le_of_ble_eq_true rfl, Nat.le_of_ble_eq_true rfl⟩) (ro_preV [0, 1, 2, 3, 4, 5, 6, 7, 8, 9, 10, 11, 12, 13, 14, 15, 16, 17, 18, 19, 20, 21, 22, 23] rfl hK hP hN 4 0 (R_S, F_S, 11) rfl rfl) rfl rfl hl.1 rfl (lv_room (Nat.le_of_ble_eq_true rfl)) d_S_sale_21 ⟨Nat.le_of_ble_eq_true rfl, Nat.le_of_ble_eq_true rfl⟩) (fun r9 hr9 => ?_)
          subst hr9
          refine lv_if_eq (tgt := 37) hx hb d_S_sale_24 (by decide) (fun c9 => ?_) (fun c9 => ?_)
          · replace hm := if_t c9 hm
            refine lv_iinc (v := (y3a + 1)) (lv' := [(3, .int (y3a + 1)), (0, .ref sq), (1, .int y1a), (2, .int y2a)]) hx hb d_S_sale_37 hl (k := 3) rfl rfl (by decide) rfl (fun ls hl => ?_)
            refine lv_goto (tgt := 8) hx hb d_S_sale_40 (by decide) ?_
            have hl : lv_has ls 4 [(0, .ref sq), (1, .int y1a), (2, .int y2a), (3, .int (y3a + 1))] := lv_sub hl [1, 2, 3, 0] rfl
            exact ih8 y1a y2a (y3a + 1) ls hl hm
          · replace hm := if_f c9 hm
            refine lv_iload_n hx hb d_S_sale_27 rfl (lv_at hl 2 rfl) ?_
            refine lv_iload_n hx hb d_S_sale_28 rfl (lv_at hl 1 rfl) ?_
            refine lv_icmp_ne (tgt := 34) hx hb d_S_sale_29 (by decide) (fun c9 => ?_) (fun c9 => ?_)
            · replace hm := if_f c9 hm
              refine lv_iinc (v := (y2a + 1)) (lv' := [(2, .int (y2a + 1)), (0, .ref sq), (1, .int y1a), (3, .int y3a)]) hx hb d_S_sale_34 hl (k := 2) rfl rfl (by decide) rfl (fun ls hl => ?_)
              refine lv_iinc (v := (y3a + 1)) (lv' := [(3, .int (y3a + 1)), (2, .int (y2a + 1)), (0, .ref sq), (1, .int y1a)]) hx hb d_S_sale_37 hl (k := 3) rfl rfl (by decide) rfl (fun ls hl => ?_)
              refine lv_goto (tgt := 8) hx hb d_S_sale_40 (by decide) ?_
              have hl : lv_has ls 4 [(0, .ref sq), (1, .int y1a), (2, .int (y2a + 1)), (3, .int (y3a + 1))] := lv_sub hl [2, 3, 1, 0] rfl
              exact ih8 y1a (y2a + 1) (y3a + 1) ls hl hm
            · replace hm := if_t c9 hm
              refine lv_iload_n hx hb d_S_sale_32 rfl (lv_at hl 3 rfl) ?_
              cases hm
              exact W.iret hx hb hr (fun t ht hW => ⟨_, rfl, rfl, ht⟩) (fun _ h => nomatch h) d_S_sale_33
    have hl : lv_has ls 4 [(0, .ref sq), (1, .int x1), (2, .int 0), (3, .int 0)] := lv_sub hl [2, 3, 1, 0] rfl
    refine key8 _ (fun y1a y2a y3a ls hl hm => ?_) N x1 0 0 ls hl hm
    try dsimp only at hm
    refine lv_iconst (v := (-1)) hx hb d_S_sale_43 (by decide) ?_
    cases hm
    exact W.iret hx hb hr (fun t ht hW => ⟨_, rfl, rfl, ht⟩) (fun _ h => nomatch h) d_S_sale_44
set_option maxHeartbeats 4000000 in
set_option maxRecDepth 100000 in
theorem x_S_sale (l : Launch) (dC : Nat → ClassId) (dI : Nat → Nat → Nat) (cI : ClassId) (sq pq pq1 pq2 pq3 pq4 oq oq1 oq2 oq3 oq4 sq3 sq4 uq uq1 hq hq1 hq2 mq mq1 mq2 mq3 mq4 mq5 : Nat) (p_thicks : Nat → Int32) (p_wides : Nat → Int32) (p_lengths : Nat → Int32) (p_grades : Nat → Int32) (p_count : Int32) (o_thicks : Nat → Int32) (o_wides : Nat → Int32) (o_lengths : Nat → Int32) (o_grades : Nat → Int32) (o_count : Int32) (s_cameOn : Nat → Int32) (s_told : Nat → Int32) (u_ordersOfPiece : Nat → Int32) (u_usedOrders : Int32) (h_orderOfPiece : Nat → Int32) (h_lastDay : Nat → Int32) (h_heldOrders : Int32) (m_gains : Nat → Int32) (m_best : Nat → Int32) (m_chosen : Nat → Int32) (m_pieceDuals : Nat → Int32) (m_orderDuals : Nat → Int32) (m_pieceCount : Int32) (m_orderCount : Int32) (m_pairs : Int32) (m_worthSum : Int32) (m_upToDate : Int32) (s_today : Int32) (s_cutOff : Int32) (s_agingOff : Int32) (s_saleAge : Int32) (x1 : Int32) (N : Nat) (k : Nat) (hst : l.stackTraces = false) (hm : m_S_sale N p_count s_cameOn u_ordersOfPiece h_orderOfPiece s_today s_saleAge x1 = some (.inl k)) : xt_Met l y_S_sale w_S_sale ({ frames := 7, cells := 1, slots := 6, locals := 116 } : Room) (va_Pc [.ref sq, .int x1] (fun U => va_P (dC, dI) classes [(sq, .inr (4, [.ref pq, .ref oq, .ref sq3, .ref sq4, .ref uq, .ref hq, .ref mq, .int s_today, .int s_cutOff, .int s_agingOff, .int s_saleAge])), (pq, .inr (0, [.ref pq1, .ref pq2, .ref pq3, .ref pq4, .int p_count])), (pq1, .inl (cI, 10, .inl p_thicks)), (pq2, .inl (cI, 10, .inl p_wides)), (pq3, .inl (cI, 10, .inl p_lengths)), (pq4, .inl (cI, 10, .inl p_grades)), (oq, .inr (0, [.ref oq1, .ref oq2, .ref oq3, .ref oq4, .int o_count])), (oq1, .inl (cI, 10, .inl o_thicks)), (oq2, .inl (cI, 10, .inl o_wides)), (oq3, .inl (cI, 10, .inl o_lengths)), (oq4, .inl (cI, 10, .inl o_grades)), (sq3, .inl (cI, 10, .inl s_cameOn)), (sq4, .inl (cI, 100, .inl s_told)), (uq, .inr (1, [.ref uq1, .int u_usedOrders])), (uq1, .inl (cI, 10, .inl u_ordersOfPiece)), (hq, .inr (2, [.ref hq1, .ref hq2, .int h_heldOrders])), (hq1, .inl (cI, 10, .inl h_orderOfPiece)), (hq2, .inl (cI, 10, .inl h_lastDay)), (mq, .inr (3, [.ref mq1, .ref mq2, .ref mq3, .ref mq4, .ref mq5, .int m_pieceCount, .int m_orderCount, .int m_pairs, .int m_worthSum, .int m_upToDate])), (mq1, .inl (cI, 100, .inl m_gains)), (mq2, .inl (cI, 11264, .inl m_best)), (mq3, .inl (cI, 10, .inl m_chosen)), (mq4, .inl (cI, 10, .inl m_pieceDuals)), (mq5, .inl (cI, 10, .inl m_orderDuals))] U.heap ∧ va_K (dC, dI) classes [(cI, .int)] U ∧ nw U ∧ xE xTx U U.heap)) (xn k) := by
  unfold m_S_sale at hm
  refine xt_ofW (cc := b_S_sale) (maxL := 4) (ret := (some .int)) (by decide) rfl ?_
  intro p e s m args below meth c s₁ B hml hout hv
  obtain ⟨rfl, hP, hK, hN, hE⟩ := hv
  have hx := B.exec
  have hb := B.bytes
  have hr := B.returns
  have hts := atoms_spec (ws := w_S_sale) B.pre
  have hown : s.vm.findClass R_S = some m.cls := findClass_of_methodNamed B.named
  have hlocks := B.notSynchronized
  have hk0 := hts (.fieldLink R_S 10 "SurplusMatch" "pieces" "LSurplusMatch$Boards;") (List.mem_cons_of_mem _ (w0 141 rfl))
  have hk1 : ∀ w ∈ w_S, w ∈ w_S_sale := fun w h => List.mem_cons_of_mem _ (i_S w h)
  have hl := lv_entry ([.ref sq, .int x1]) (n := 4) (Nat.le_of_ble_eq_true rfl)
  rw [lg_entry_eq]
  generalize (lg_sl ([.ref sq, .int x1]) ++ List.replicate (4 - (lg_sl ([.ref sq, .int x1])).length) Slot.unset).toArray = ls at hl ⊢
  have hl : lv_has ls 4 [(0, .ref sq), (1, .int x1)] := hl
  refine lv_iload_n hx hb d_S_sale_0 rfl (lv_at hl 1 rfl) ?_
  obtain ⟨z9, hc, hm⟩ := bd hm
  rcases z9 with k9 | ⟨⟩
  · dsimp only [tk] at hm
    cases hm
    exact xt_runS (As := [.int x1]) (rest := []) ⟨hx, hb, hml, hown, hts⟩ (x_S_refuseNegative l dC dI cI x1 N _ hst hc) (cwS 1 hts (gS (w0 524 rfl) (w0 525 rfl) (w0 28 rfl) (w0 526 rfl)) rfl rfl rfl q_S_refuseNegative ⟨Nat.le_of_ble_eq_true rfl, Nat.le_of_ble_eq_true rfl⟩) (rx_pre0 hE) rfl rfl hl.1 rfl (lv_room (Nat.le_of_ble_eq_true rfl)) d_S_sale_1 ⟨Nat.le_of_ble_eq_true rfl, Nat.le_of_ble_eq_true rfl⟩ (fun q ce H1 hce hcv hcl hz hk => xt_out hout hlocks hce hcv hcl)
  · dsimp only [tk] at hm
    refine va_csv (W.runS (As := [.int x1]) (rest := []) ⟨hx, hb, hml, hown, hts⟩ (c_S_refuseNegative l dC dI cI x1 N () hc) (cwS 1 hts (gS (w0 524 rfl) (w0 525 rfl) (w0 28 rfl) (w0 526 rfl)) rfl rfl rfl q_S_refuseNegative ⟨Nat.le_of_ble_eq_true rfl, Nat.le_of_ble_eq_true rfl⟩) ro_pre0 rfl rfl hl.1 rfl (lv_room (Nat.le_of_ble_eq_true rfl)) d_S_sale_1 ⟨Nat.le_of_ble_eq_true rfl, Nat.le_of_ble_eq_true rfl⟩) (fun _ => ?_)
    refine lv_iconst (v := 0) hx hb d_S_sale_4 (by decide) ?_
    refine lv_istore_n (lv' := [(2, .int 0), (0, .ref sq), (1, .int x1)]) hx hb d_S_sale_5 rfl hl (by decide) rfl (fun ls hl => ?_)
    refine lv_iconst (v := 0) hx hb d_S_sale_6 (by decide) ?_
    refine lv_istore_n (lv' := [(3, .int 0), (2, .int 0), (0, .ref sq), (1, .int x1)]) hx hb d_S_sale_7 rfl hl (by decide) rfl (fun ls hl => ?_)
    have key8 : ∀ (K : Int32 → Int32 → Int32 → Option (Nat ⊕ Int32)) (_ : ∀ (y1a : Int32) (y2a : Int32) (y3a : Int32) (ls : Array Slot), lv_has ls 4 [(0, .ref sq), (1, .int y1a), (2, .int y2a), (3, .int y3a)] → K y1a y2a y3a = some (.inl k) → W p l e (headSpec w_S_sale ({ frames := 7, cells := 1, slots := 6, locals := 116 } : Room)).room s m ([.ref sq, .int x1] : List Value).toArray below meth c s.heap [] 0 0 (xt_MQ below (xn k) s) (F0 m 43 ls [])) (n : Nat) (y1a : Int32) (y2a : Int32) (y3a : Int32) (ls : Array Slot), lv_has ls 4 [(0, .ref sq), (1, .int y1a), (2, .int y2a), (3, .int y3a)] → L_S_sale_8 N p_count s_cameOn u_ordersOfPiece h_orderOfPiece s_today s_saleAge K n y1a y2a y3a = some (.inl k) → W p l e (headSpec w_S_sale ({ frames := 7, cells := 1, slots := 6, locals := 116 } : Room)).room s m ([.ref sq, .int x1] : List Value).toArray below meth c s.heap [] 0 0 (xt_MQ below (xn k) s) (F0 m 8 ls []) := by
      intro K hK8 n
      induction n with
      | zero => intro y1a y2a y3a ls hl hm; exact absurd hm (by simp [L_S_sale_8])
      | succ n ih8 =>
        intro y1a y2a y3a ls hl hm
        rw [L_S_sale_8] at hm
        refine lv_iload_n hx hb d_S_sale_8 rfl (lv_at hl 3 rfl) ?_
        refine lv_aload_n hx hb d_S_sale_9 rfl (lv_at hl 0 rfl) ?_
        refine va_get (D := (dC, dI)) (ci := 4) (v := .ref pq) (C := R_S) (T := F_S) (N := 11) hx hb hts hk1 hown hK hP 0 rfl rfl 0 (by decide) hk0 (fun _ h9 => h9) rfl d_S_sale_10 ?_
        obtain ⟨r2, hc, hm⟩ := bd hm
        try dsimp only at hm
        refine vp_callSi (W.runV (As := []) (rest := [.int y3a]) ⟨hx, hb, hml, hown, hts⟩ (c_B_size l dC dI cI pq pq1 pq2 pq3 pq4 p_thicks p_wides p_lengths p_grades p_count  N r2 hc) (cwV 0 hts (gV (w0 186 rfl) (w0 187 rfl) (w0 188 rfl) (w0 29 rfl) (w0 189 rfl)) rfl rfl rfl q_B_size ⟨Nat.le_of_ble_eq_true rfl, Nat.le_of_ble_eq_true rfl⟩) (ro_preV [1, 2, 3, 4, 5] rfl hK hP hN 0 0 (R_B, F_B, 5) rfl rfl) rfl rfl hl.1 rfl (lv_room (Nat.le_of_ble_eq_true rfl)) d_S_sale_13 ⟨Nat.le_of_ble_eq_true rfl, Nat.le_of_ble_eq_true rfl⟩) (fun r9 hr9 => ?_)
        subst hr9
        refine lv_icmp_ge (tgt := 43) hx hb d_S_sale_16 (by decide) (fun c9 => ?_) (fun c9 => ?_)
        · replace hm := if_t c9 hm
          have hl : lv_has ls 4 [(0, .ref sq), (1, .int y1a), (2, .int y2a), (3, .int y3a)] := lv_sub hl [0, 1, 2, 3] rfl
          exact hK8 y1a y2a y3a ls hl hm
        · replace hm := if_f c9 hm
          refine lv_aload_n hx hb d_S_sale_19 rfl (lv_at hl 0 rfl) ?_
          refine lv_iload_n hx hb d_S_sale_20 rfl (lv_at hl 3 rfl) ?_
          obtain ⟨r3, hc, hm⟩ := bd hm
          try dsimp only at hm
          refine vp_callSi (W.runV (As := [.int y3a]) (rest := []) ⟨hx, hb, hml, hown, hts⟩ (c_S_isForSale l dC dI cI sq pq pq1 pq2 pq3 pq4 oq oq1 oq2 oq3 oq4 sq3 sq4 uq uq1 hq hq1 hq2 mq mq1 mq2 mq3 mq4 mq5 p_thicks p_wides p_lengths p_grades p_count o_thicks o_wides o_lengths o_grades o_count s_cameOn s_told u_ordersOfPiece u_usedOrders h_orderOfPiece h_lastDay h_heldOrders m_gains m_best m_chosen m_pieceDuals m_orderDuals m_pieceCount m_orderCount m_pairs m_worthSum m_upToDate s_today s_cutOff s_agingOff s_saleAge y3a N r3 hc) (cwV 1 hts (gV (w0 572 rfl) (w0 573 rfl) (w0 17 rfl) (w0 28 rfl) (w0 574 rfl)) rfl rfl rfl q_S_isForSale ⟨Nat.le_of_ble_eq_true rfl, Nat.le_of_ble_eq_true rfl⟩) (ro_preV [0, 1, 2, 3, 4, 5, 6, 7, 8, 9, 10, 11, 12, 13, 14, 15, 16, 17, 18, 19, 20, 21, 22, 23] rfl hK hP hN 4 0 (R_S, F_S, 11) rfl rfl) rfl rfl hl.1 rfl (lv_room (Nat.le_of_ble_eq_true rfl)) d_S_sale_21 ⟨Nat.le_of_ble_eq_true rfl, Nat.le_of_ble_eq_true rfl⟩) (fun r9 hr9 => ?_)
          subst hr9
          refine lv_if_eq (tgt := 37) hx hb d_S_sale_24 (by decide) (fun c9 => ?_) (fun c9 => ?_)
          · replace hm := if_t c9 hm
            refine lv_iinc (v := (y3a + 1)) (lv' := [(3, .int (y3a + 1)), (0, .ref sq), (1, .int y1a), (2, .int y2a)]) hx hb d_S_sale_37 hl (k := 3) rfl rfl (by decide) rfl (fun ls hl => ?_)
            refine lv_goto (tgt := 8) hx hb d_S_sale_40 (by decide) ?_
            have hl : lv_has ls 4 [(0, .ref sq), (1, .int y1a), (2, .int y2a), (3, .int (y3a + 1))] := lv_sub hl [1, 2, 3, 0] rfl
            exact ih8 y1a y2a (y3a + 1) ls hl hm
          · replace hm := if_f c9 hm
            refine lv_iload_n hx hb d_S_sale_27 rfl (lv_at hl 2 rfl) ?_
            refine lv_iload_n hx hb d_S_sale_28 rfl (lv_at hl 1 rfl) ?_
            refine lv_icmp_ne (tgt := 34) hx hb d_S_sale_29 (by decide) (fun c9 => ?_) (fun c9 => ?_)
            · replace hm := if_f c9 hm
              refine lv_iinc (v := (y2a + 1)) (lv' := [(2, .int (y2a + 1)), (0, .ref sq), (1, .int y1a), (3, .int y3a)]) hx hb d_S_sale_34 hl (k := 2) rfl rfl (by decide) rfl (fun ls hl => ?_)
              refine lv_iinc (v := (y3a + 1)) (lv' := [(3, .int (y3a + 1)), (2, .int (y2a + 1)), (0, .ref sq), (1, .int y1a)]) hx hb d_S_sale_37 hl (k := 3) rfl rfl (by decide) rfl (fun ls hl => ?_)
              refine lv_goto (tgt := 8) hx hb d_S_sale_40 (by decide) ?_
              have hl : lv_has ls 4 [(0, .ref sq), (1, .int y1a), (2, .int (y2a + 1)), (3, .int (y3a + 1))] := lv_sub hl [2, 3, 1, 0] rfl
              exact ih8 y1a (y2a + 1) (y3a + 1) ls hl hm
            · replace hm := if_t c9 hm
              refine lv_iload_n hx hb d_S_sale_32 rfl (lv_at hl 3 rfl) ?_
              cases hm
    have hl : lv_has ls 4 [(0, .ref sq), (1, .int x1), (2, .int 0), (3, .int 0)] := lv_sub hl [2, 3, 1, 0] rfl
    refine key8 _ (fun y1a y2a y3a ls hl hm => ?_) N x1 0 0 ls hl hm
    try dsimp only at hm
    refine lv_iconst (v := (-1)) hx hb d_S_sale_43 (by decide) ?_
    cases hm

def w_S_tick : List Cond := .code y_S_tick b_S_tick 2 (some .int) :: W0
theorem q_S_tick : y_S_tick.cls = R_S ∧ y_S_tick.cls ≠ "java/lang/invoke/MethodHandle" ∧ y_S_tick.cls ≠ "java/lang/invoke/VarHandle" ∧ (parseMethodDescriptor y_S_tick.desc).map (fun d => d.parameters.length) = some 1 := by decide +kernel
def m_S_tick (N : Nat) (h_orderOfPiece : Nat → Int32) (h_lastDay : Nat → Int32) (h_heldOrders : Int32) (s_today : Int32) (x1 : Int32) : Option (Nat ⊕ (Int32 × Int32 × (Nat → Int32) × Int32)) :=
  ((m_S_isWithin x1 1 1000).bind fun r1 =>
  (if r1 = 0 then
    some (.inl 2)
   else
    (if (s_today + x1) ≤ 9999 then
      ((m_H_dropBefore N h_orderOfPiece h_lastDay h_heldOrders (s_today + x1)).bind fun (u3, u4) =>
        some (.inr ((s_today + x1), (s_today + x1), u3, u4)))
     else
      some (.inl 2))))
set_option maxHeartbeats 4000000 in
set_option maxRecDepth 100000 in
theorem c_S_tick (l : Launch) (dC : Nat → ClassId) (dI : Nat → Nat → Nat) (cI : ClassId) (sq pq pq1 pq2 pq3 pq4 oq oq1 oq2 oq3 oq4 sq3 sq4 uq uq1 hq hq1 hq2 mq mq1 mq2 mq3 mq4 mq5 : Nat) (sz : Nat) (p_thicks : Nat → Int32) (p_wides : Nat → Int32) (p_lengths : Nat → Int32) (p_grades : Nat → Int32) (p_count : Int32) (o_thicks : Nat → Int32) (o_wides : Nat → Int32) (o_lengths : Nat → Int32) (o_grades : Nat → Int32) (o_count : Int32) (s_cameOn : Nat → Int32) (s_told : Nat → Int32) (u_ordersOfPiece : Nat → Int32) (u_usedOrders : Int32) (h_orderOfPiece : Nat → Int32) (h_lastDay : Nat → Int32) (h_heldOrders : Int32) (m_gains : Nat → Int32) (m_best : Nat → Int32) (m_chosen : Nat → Int32) (m_pieceDuals : Nat → Int32) (m_orderDuals : Nat → Int32) (m_pieceCount : Int32) (m_orderCount : Int32) (m_pairs : Int32) (m_worthSum : Int32) (m_upToDate : Int32) (s_today : Int32) (s_cutOff : Int32) (s_agingOff : Int32) (s_saleAge : Int32) (x1 : Int32) (N : Nat) (res : Int32 × Int32 × (Nat → Int32) × Int32) (hm : m_S_tick N h_orderOfPiece h_lastDay h_heldOrders s_today x1 = some (.inr res)) : Met l y_S_tick w_S_tick ({ frames := 3, cells := 0, slots := 0, locals := 64 } : Room) (va_Pc [.ref sq, .int x1] (fun U => U.heap.size = sz ∧ va_P (dC, dI) classes [(sq, .inr (4, [.ref pq, .ref oq, .ref sq3, .ref sq4, .ref uq, .ref hq, .ref mq, .int s_today, .int s_cutOff, .int s_agingOff, .int s_saleAge])), (pq, .inr (0, [.ref pq1, .ref pq2, .ref pq3, .ref pq4, .int p_count])), (pq1, .inl (cI, 10, .inl p_thicks)), (pq2, .inl (cI, 10, .inl p_wides)), (pq3, .inl (cI, 10, .inl p_lengths)), (pq4, .inl (cI, 10, .inl p_grades)), (oq, .inr (0, [.ref oq1, .ref oq2, .ref oq3, .ref oq4, .int o_count])), (oq1, .inl (cI, 10, .inl o_thicks)), (oq2, .inl (cI, 10, .inl o_wides)), (oq3, .inl (cI, 10, .inl o_lengths)), (oq4, .inl (cI, 10, .inl o_grades)), (sq3, .inl (cI, 10, .inl s_cameOn)), (sq4, .inl (cI, 100, .inl s_told)), (uq, .inr (1, [.ref uq1, .int u_usedOrders])), (uq1, .inl (cI, 10, .inl u_ordersOfPiece)), (hq, .inr (2, [.ref hq1, .ref hq2, .int h_heldOrders])), (hq1, .inl (cI, 10, .inl h_orderOfPiece)), (hq2, .inl (cI, 10, .inl h_lastDay)), (mq, .inr (3, [.ref mq1, .ref mq2, .ref mq3, .ref mq4, .ref mq5, .int m_pieceCount, .int m_orderCount, .int m_pairs, .int m_worthSum, .int m_upToDate])), (mq1, .inl (cI, 100, .inl m_gains)), (mq2, .inl (cI, 11264, .inl m_best)), (mq3, .inl (cI, 10, .inl m_chosen)), (mq4, .inl (cI, 10, .inl m_pieceDuals)), (mq5, .inl (cI, 10, .inl m_orderDuals))] U.heap ∧ va_K (dC, dI) classes [(cI, .int)] U ∧ va_D (fun _ => True) [(sq, .inr (4, [.ref pq, .ref oq, .ref sq3, .ref sq4, .ref uq, .ref hq, .ref mq, .int s_today, .int s_cutOff, .int s_agingOff, .int s_saleAge])), (pq, .inr (0, [.ref pq1, .ref pq2, .ref pq3, .ref pq4, .int p_count])), (pq1, .inl (cI, 10, .inl p_thicks)), (pq2, .inl (cI, 10, .inl p_wides)), (pq3, .inl (cI, 10, .inl p_lengths)), (pq4, .inl (cI, 10, .inl p_grades)), (oq, .inr (0, [.ref oq1, .ref oq2, .ref oq3, .ref oq4, .int o_count])), (oq1, .inl (cI, 10, .inl o_thicks)), (oq2, .inl (cI, 10, .inl o_wides)), (oq3, .inl (cI, 10, .inl o_lengths)), (oq4, .inl (cI, 10, .inl o_grades)), (sq3, .inl (cI, 10, .inl s_cameOn)), (sq4, .inl (cI, 100, .inl s_told)), (uq, .inr (1, [.ref uq1, .int u_usedOrders])), (uq1, .inl (cI, 10, .inl u_ordersOfPiece)), (hq, .inr (2, [.ref hq1, .ref hq2, .int h_heldOrders])), (hq1, .inl (cI, 10, .inl h_orderOfPiece)), (hq2, .inl (cI, 10, .inl h_lastDay)), (mq, .inr (3, [.ref mq1, .ref mq2, .ref mq3, .ref mq4, .ref mq5, .int m_pieceCount, .int m_orderCount, .int m_pairs, .int m_worthSum, .int m_upToDate])), (mq1, .inl (cI, 100, .inl m_gains)), (mq2, .inl (cI, 11264, .inl m_best)), (mq3, .inl (cI, 10, .inl m_chosen)), (mq4, .inl (cI, 10, .inl m_pieceDuals)), (mq5, .inl (cI, 10, .inl m_orderDuals))] ∧ nw U)) (va_Qi (fun (x : Int32) (_ : Unit) => res.1 = x) (fun _ t => va_P (dC, dI) classes [(sq, .inr (4, [.ref pq, .ref oq, .ref sq3, .ref sq4, .ref uq, .ref hq, .ref mq, .int res.2.1, .int s_cutOff, .int s_agingOff, .int s_saleAge])), (pq, .inr (0, [.ref pq1, .ref pq2, .ref pq3, .ref pq4, .int p_count])), (pq1, .inl (cI, 10, .inl p_thicks)), (pq2, .inl (cI, 10, .inl p_wides)), (pq3, .inl (cI, 10, .inl p_lengths)), (pq4, .inl (cI, 10, .inl p_grades)), (oq, .inr (0, [.ref oq1, .ref oq2, .ref oq3, .ref oq4, .int o_count])), (oq1, .inl (cI, 10, .inl o_thicks)), (oq2, .inl (cI, 10, .inl o_wides)), (oq3, .inl (cI, 10, .inl o_lengths)), (oq4, .inl (cI, 10, .inl o_grades)), (sq3, .inl (cI, 10, .inl s_cameOn)), (sq4, .inl (cI, 100, .inl s_told)), (uq, .inr (1, [.ref uq1, .int u_usedOrders])), (uq1, .inl (cI, 10, .inl u_ordersOfPiece)), (hq, .inr (2, [.ref hq1, .ref hq2, .int res.2.2.2])), (hq1, .inl (cI, 10, .inl res.2.2.1)), (hq2, .inl (cI, 10, .inl h_lastDay)), (mq, .inr (3, [.ref mq1, .ref mq2, .ref mq3, .ref mq4, .ref mq5, .int m_pieceCount, .int m_orderCount, .int m_pairs, .int m_worthSum, .int m_upToDate])), (mq1, .inl (cI, 100, .inl m_gains)), (mq2, .inl (cI, 11264, .inl m_best)), (mq3, .inl (cI, 10, .inl m_chosen)), (mq4, .inl (cI, 10, .inl m_pieceDuals)), (mq5, .inl (cI, 10, .inl m_orderDuals))] t.heap ∧ va_K (dC, dI) classes [(cI, .int)] t ∧ va_D (va_A [(sq, .inr (4, [.ref pq, .ref oq, .ref sq3, .ref sq4, .ref uq, .ref hq, .ref mq, .int s_today, .int s_cutOff, .int s_agingOff, .int s_saleAge])), (pq, .inr (0, [.ref pq1, .ref pq2, .ref pq3, .ref pq4, .int p_count])), (pq1, .inl (cI, 10, .inl p_thicks)), (pq2, .inl (cI, 10, .inl p_wides)), (pq3, .inl (cI, 10, .inl p_lengths)), (pq4, .inl (cI, 10, .inl p_grades)), (oq, .inr (0, [.ref oq1, .ref oq2, .ref oq3, .ref oq4, .int o_count])), (oq1, .inl (cI, 10, .inl o_thicks)), (oq2, .inl (cI, 10, .inl o_wides)), (oq3, .inl (cI, 10, .inl o_lengths)), (oq4, .inl (cI, 10, .inl o_grades)), (sq3, .inl (cI, 10, .inl s_cameOn)), (sq4, .inl (cI, 100, .inl s_told)), (uq, .inr (1, [.ref uq1, .int u_usedOrders])), (uq1, .inl (cI, 10, .inl u_ordersOfPiece)), (hq, .inr (2, [.ref hq1, .ref hq2, .int h_heldOrders])), (hq1, .inl (cI, 10, .inl h_orderOfPiece)), (hq2, .inl (cI, 10, .inl h_lastDay)), (mq, .inr (3, [.ref mq1, .ref mq2, .ref mq3, .ref mq4, .ref mq5, .int m_pieceCount, .int m_orderCount, .int m_pairs, .int m_worthSum, .int m_upToDate])), (mq1, .inl (cI, 100, .inl m_gains)), (mq2, .inl (cI, 11264, .inl m_best)), (mq3, .inl (cI, 10, .inl m_chosen)), (mq4, .inl (cI, 10, .inl m_pieceDuals)), (mq5, .inl (cI, 10, .inl m_orderDuals))] sz) [(sq, .inr (4, [.ref pq, .ref oq, .ref sq3, .ref sq4, .ref uq, .ref hq, .ref mq, .int res.2.1, .int s_cutOff, .int s_agingOff, .int s_saleAge])), (pq, .inr (0, [.ref pq1, .ref pq2, .ref pq3, .ref pq4, .int p_count])), (pq1, .inl (cI, 10, .inl p_thicks)), (pq2, .inl (cI, 10, .inl p_wides)), (pq3, .inl (cI, 10, .inl p_lengths)), (pq4, .inl (cI, 10, .inl p_grades)), (oq, .inr (0, [.ref oq1, .ref oq2, .ref oq3, .ref oq4, .int o_count])), (oq1, .inl (cI, 10, .inl o_thicks)), (oq2, .inl (cI, 10, .inl o_wides)), (oq3, .inl (cI, 10, .inl o_lengths)), (oq4, .inl (cI, 10, .inl o_grades)), (sq3, .inl (cI, 10, .inl s_cameOn)), (sq4, .inl (cI, 100, .inl s_told)), (uq, .inr (1, [.ref uq1, .int u_usedOrders])), (uq1, .inl (cI, 10, .inl u_ordersOfPiece)), (hq, .inr (2, [.ref hq1, .ref hq2, .int res.2.2.2])), (hq1, .inl (cI, 10, .inl res.2.2.1)), (hq2, .inl (cI, 10, .inl h_lastDay)), (mq, .inr (3, [.ref mq1, .ref mq2, .ref mq3, .ref mq4, .ref mq5, .int m_pieceCount, .int m_orderCount, .int m_pairs, .int m_worthSum, .int m_upToDate])), (mq1, .inl (cI, 100, .inl m_gains)), (mq2, .inl (cI, 11264, .inl m_best)), (mq3, .inl (cI, 10, .inl m_chosen)), (mq4, .inl (cI, 10, .inl m_pieceDuals)), (mq5, .inl (cI, 10, .inl m_orderDuals))]) (va_A [(sq, .inr (4, [.ref pq, .ref oq, .ref sq3, .ref sq4, .ref uq, .ref hq, .ref mq, .int s_today, .int s_cutOff, .int s_agingOff, .int s_saleAge])), (pq, .inr (0, [.ref pq1, .ref pq2, .ref pq3, .ref pq4, .int p_count])), (pq1, .inl (cI, 10, .inl p_thicks)), (pq2, .inl (cI, 10, .inl p_wides)), (pq3, .inl (cI, 10, .inl p_lengths)), (pq4, .inl (cI, 10, .inl p_grades)), (oq, .inr (0, [.ref oq1, .ref oq2, .ref oq3, .ref oq4, .int o_count])), (oq1, .inl (cI, 10, .inl o_thicks)), (oq2, .inl (cI, 10, .inl o_wides)), (oq3, .inl (cI, 10, .inl o_lengths)), (oq4, .inl (cI, 10, .inl o_grades)), (sq3, .inl (cI, 10, .inl s_cameOn)), (sq4, .inl (cI, 100, .inl s_told)), (uq, .inr (1, [.ref uq1, .int u_usedOrders])), (uq1, .inl (cI, 10, .inl u_ordersOfPiece)), (hq, .inr (2, [.ref hq1, .ref hq2, .int h_heldOrders])), (hq1, .inl (cI, 10, .inl h_orderOfPiece)), (hq2, .inl (cI, 10, .inl h_lastDay)), (mq, .inr (3, [.ref mq1, .ref mq2, .ref mq3, .ref mq4, .ref mq5, .int m_pieceCount, .int m_orderCount, .int m_pairs, .int m_worthSum, .int m_upToDate])), (mq1, .inl (cI, 100, .inl m_gains)), (mq2, .inl (cI, 11264, .inl m_best)), (mq3, .inl (cI, 10, .inl m_chosen)), (mq4, .inl (cI, 10, .inl m_pieceDuals)), (mq5, .inl (cI, 10, .inl m_orderDuals))] sz)) 0 0 (va_A [(sq, .inr (4, [.ref pq, .ref oq, .ref sq3, .ref sq4, .ref uq, .ref hq, .ref mq, .int s_today, .int s_cutOff, .int s_agingOff, .int s_saleAge])), (pq, .inr (0, [.ref pq1, .ref pq2, .ref pq3, .ref pq4, .int p_count])), (pq1, .inl (cI, 10, .inl p_thicks)), (pq2, .inl (cI, 10, .inl p_wides)), (pq3, .inl (cI, 10, .inl p_lengths)), (pq4, .inl (cI, 10, .inl p_grades)), (oq, .inr (0, [.ref oq1, .ref oq2, .ref oq3, .ref oq4, .int o_count])), (oq1, .inl (cI, 10, .inl o_thicks)), (oq2, .inl (cI, 10, .inl o_wides)), (oq3, .inl (cI, 10, .inl o_lengths)), (oq4, .inl (cI, 10, .inl o_grades)), (sq3, .inl (cI, 10, .inl s_cameOn)), (sq4, .inl (cI, 100, .inl s_told)), (uq, .inr (1, [.ref uq1, .int u_usedOrders])), (uq1, .inl (cI, 10, .inl u_ordersOfPiece)), (hq, .inr (2, [.ref hq1, .ref hq2, .int h_heldOrders])), (hq1, .inl (cI, 10, .inl h_orderOfPiece)), (hq2, .inl (cI, 10, .inl h_lastDay)), (mq, .inr (3, [.ref mq1, .ref mq2, .ref mq3, .ref mq4, .ref mq5, .int m_pieceCount, .int m_orderCount, .int m_pairs, .int m_worthSum, .int m_upToDate])), (mq1, .inl (cI, 100, .inl m_gains)), (mq2, .inl (cI, 11264, .inl m_best)), (mq3, .inl (cI, 10, .inl m_chosen)), (mq4, .inl (cI, 10, .inl m_pieceDuals)), (mq5, .inl (cI, 10, .inl m_orderDuals))] sz) := by
  unfold m_S_tick at hm
  refine Met.ofW (cc := b_S_tick) (maxL := 2) (ret := (some .int)) (by decide) rfl ?_
  intro p e s m args below meth c s₁ B hml hv
  obtain ⟨rfl, hsz, hP, hK, hD0, hN⟩ := hv
  have hx := B.exec
  have hb := B.bytes
  have hr := B.returns
  have hts := atoms_spec (ws := w_S_tick) B.pre
  have hown : s.vm.findClass R_S = some m.cls := findClass_of_methodNamed B.named
  have hlocks := B.notSynchronized
  subst hsz
  have hD := hD0.self (sz := s.heap.size)
  generalize hAe : va_A [(sq, .inr (4, [.ref pq, .ref oq, .ref sq3, .ref sq4, .ref uq, .ref hq, .ref mq, .int s_today, .int s_cutOff, .int s_agingOff, .int s_saleAge])), (pq, .inr (0, [.ref pq1, .ref pq2, .ref pq3, .ref pq4, .int p_count])), (pq1, .inl (cI, 10, .inl p_thicks)), (pq2, .inl (cI, 10, .inl p_wides)), (pq3, .inl (cI, 10, .inl p_lengths)), (pq4, .inl (cI, 10, .inl p_grades)), (oq, .inr (0, [.ref oq1, .ref oq2, .ref oq3, .ref oq4, .int o_count])), (oq1, .inl (cI, 10, .inl o_thicks)), (oq2, .inl (cI, 10, .inl o_wides)), (oq3, .inl (cI, 10, .inl o_lengths)), (oq4, .inl (cI, 10, .inl o_grades)), (sq3, .inl (cI, 10, .inl s_cameOn)), (sq4, .inl (cI, 100, .inl s_told)), (uq, .inr (1, [.ref uq1, .int u_usedOrders])), (uq1, .inl (cI, 10, .inl u_ordersOfPiece)), (hq, .inr (2, [.ref hq1, .ref hq2, .int h_heldOrders])), (hq1, .inl (cI, 10, .inl h_orderOfPiece)), (hq2, .inl (cI, 10, .inl h_lastDay)), (mq, .inr (3, [.ref mq1, .ref mq2, .ref mq3, .ref mq4, .ref mq5, .int m_pieceCount, .int m_orderCount, .int m_pairs, .int m_worthSum, .int m_upToDate])), (mq1, .inl (cI, 100, .inl m_gains)), (mq2, .inl (cI, 11264, .inl m_best)), (mq3, .inl (cI, 10, .inl m_chosen)), (mq4, .inl (cI, 10, .inl m_pieceDuals)), (mq5, .inl (cI, 10, .inl m_orderDuals))] s.heap.size = A at hD ⊢
  have hA : ∀ q : Nat, s.heap.size ≤ q → A q := fun q h => by rw [← hAe]; exact Or.inr h
  have hS : va_S A s.heap s.heap [] := va_S.rf
  have hk0 := hts (.fieldLink R_S 62 "SurplusMatch" "today" "I") (List.mem_cons_of_mem _ (w0 148 rfl))
  have hk1 : ∀ w ∈ w_S, w ∈ w_S_tick := fun w h => List.mem_cons_of_mem _ (i_S w h)
  have hk2 := hts (.fieldLink R_S 36 "SurplusMatch" "holds" "LSurplusMatch$Holds;") (List.mem_cons_of_mem _ (w0 146 rfl))
  have hl := lv_entry ([.ref sq, .int x1]) (n := 2) (Nat.le_of_ble_eq_true rfl)
  rw [lg_entry_eq]
  generalize (lg_sl ([.ref sq, .int x1]) ++ List.replicate (2 - (lg_sl ([.ref sq, .int x1])).length) Slot.unset).toArray = ls at hl ⊢
  have hl : lv_has ls 2 [(0, .ref sq), (1, .int x1)] := hl
  refine lv_iload_n hx hb d_S_tick_0 rfl (lv_at hl 1 rfl) ?_
  refine lv_iconst (v := 1) hx hb d_S_tick_1 (by decide) ?_
  refine lv_sipush (v := 1000) hx hb d_S_tick_2 (by decide) ?_
  obtain ⟨r1, hc, hm⟩ := bd hm
  try dsimp only at hm
  refine vp_callSi (W.runS (As := [.int x1, .int 1, .int 1000]) (rest := []) ⟨hx, hb, hml, hown, hts⟩ (c_S_isWithin l dC dI cI x1 1 1000 N r1 hc) (cwS 3 hts (gS (w0 301 rfl) (w0 302 rfl) (w0 28 rfl) (w0 303 rfl)) rfl rfl rfl q_S_isWithin ⟨Nat.le_of_ble_eq_true rfl, Nat.le_of_ble_eq_true rfl⟩) ro_pre0 rfl rfl hl.1 rfl (lv_room (Nat.le_of_ble_eq_true rfl)) d_S_tick_5 ⟨Nat.le_of_ble_eq_true rfl, Nat.le_of_ble_eq_true rfl⟩) (fun r9 hr9 => ?_)
  subst hr9
  refine lv_if_ne (tgt := 21) hx hb d_S_tick_8 (by decide) (fun c9 => ?_) (fun c9 => ?_)
  · replace hm := if_f c9 hm
    refine lv_aload_n hx hb d_S_tick_21 rfl (lv_at hl 0 rfl) ?_
    refine va_get (D := (dC, dI)) (ci := 4) (v := .int s_today) (C := R_S) (T := F_S) (N := 11) hx hb hts hk1 hown hK hP 0 rfl rfl 7 (by decide) hk0 (fun _ h9 => h9) rfl d_S_tick_22 ?_
    refine lv_iload_n hx hb d_S_tick_25 rfl (lv_at hl 1 rfl) ?_
    refine lv_iadd hx hb d_S_tick_26 ?_
    refine lv_sipush (v := 9999) hx hb d_S_tick_27 (by decide) ?_
    refine lv_icmp_le (tgt := 43) hx hb d_S_tick_30 (by decide) (fun c9 => ?_) (fun c9 => ?_)
    · replace hm := if_t c9 hm
      refine lv_aload_n hx hb d_S_tick_43 rfl (lv_at hl 0 rfl) ?_
      refine lv_dup hx hb d_S_tick_44 rfl ?_
      refine va_get (D := (dC, dI)) (ci := 4) (v := .int s_today) (C := R_S) (T := F_S) (N := 11) hx hb hts hk1 hown hK hP 0 rfl rfl 7 (by decide) hk0 (fun _ h9 => h9) rfl d_S_tick_45 ?_
      refine lv_iload_n hx hb d_S_tick_48 rfl (lv_at hl 1 rfl) ?_
      refine lv_iadd hx hb d_S_tick_49 ?_
      refine va_put (D := (dC, dI)) (ci := 4) (v := .int (s_today + x1)) (ty := .int) (C := R_S) (T := F_S) (N := 11) hx hb hts hk1 t_S t_S_ok n_S hown hK hP hD hS 0 rfl rfl 7 (by decide) hk0 (fun _ h9 => h9) rfl (by decide +kernel) rfl rfl (Nat.le_of_ble_eq_true rfl) d_S_tick_50 (fun H locs hP hD hS => ?_)
      have hP : va_P (dC, dI) classes [(sq, .inr (4, [.ref pq, .ref oq, .ref sq3, .ref sq4, .ref uq, .ref hq, .ref mq, .int (s_today + x1), .int s_cutOff, .int s_agingOff, .int s_saleAge])), (pq, .inr (0, [.ref pq1, .ref pq2, .ref pq3, .ref pq4, .int p_count])), (pq1, .inl (cI, 10, .inl p_thicks)), (pq2, .inl (cI, 10, .inl p_wides)), (pq3, .inl (cI, 10, .inl p_lengths)), (pq4, .inl (cI, 10, .inl p_grades)), (oq, .inr (0, [.ref oq1, .ref oq2, .ref oq3, .ref oq4, .int o_count])), (oq1, .inl (cI, 10, .inl o_thicks)), (oq2, .inl (cI, 10, .inl o_wides)), (oq3, .inl (cI, 10, .inl o_lengths)), (oq4, .inl (cI, 10, .inl o_grades)), (sq3, .inl (cI, 10, .inl s_cameOn)), (sq4, .inl (cI, 100, .inl s_told)), (uq, .inr (1, [.ref uq1, .int u_usedOrders])), (uq1, .inl (cI, 10, .inl u_ordersOfPiece)), (hq, .inr (2, [.ref hq1, .ref hq2, .int h_heldOrders])), (hq1, .inl (cI, 10, .inl h_orderOfPiece)), (hq2, .inl (cI, 10, .inl h_lastDay)), (mq, .inr (3, [.ref mq1, .ref mq2, .ref mq3, .ref mq4, .ref mq5, .int m_pieceCount, .int m_orderCount, .int m_pairs, .int m_worthSum, .int m_upToDate])), (mq1, .inl (cI, 100, .inl m_gains)), (mq2, .inl (cI, 11264, .inl m_best)), (mq3, .inl (cI, 10, .inl m_chosen)), (mq4, .inl (cI, 10, .inl m_pieceDuals)), (mq5, .inl (cI, 10, .inl m_orderDuals))] H := hP
      have hD : va_D A [(sq, .inr (4, [.ref pq, .ref oq, .ref sq3, .ref sq4, .ref uq, .ref hq, .ref mq, .int (s_today + x1), .int s_cutOff, .int s_agingOff, .int s_saleAge])), (pq, .inr (0, [.ref pq1, .ref pq2, .ref pq3, .ref pq4, .int p_count])), (pq1, .inl (cI, 10, .inl p_thicks)), (pq2, .inl (cI, 10, .inl p_wides)), (pq3, .inl (cI, 10, .inl p_lengths)), (pq4, .inl (cI, 10, .inl p_grades)), (oq, .inr (0, [.ref oq1, .ref oq2, .ref oq3, .ref oq4, .int o_count])), (oq1, .inl (cI, 10, .inl o_thicks)), (oq2, .inl (cI, 10, .inl o_wides)), (oq3, .inl (cI, 10, .inl o_lengths)), (oq4, .inl (cI, 10, .inl o_grades)), (sq3, .inl (cI, 10, .inl s_cameOn)), (sq4, .inl (cI, 100, .inl s_told)), (uq, .inr (1, [.ref uq1, .int u_usedOrders])), (uq1, .inl (cI, 10, .inl u_ordersOfPiece)), (hq, .inr (2, [.ref hq1, .ref hq2, .int h_heldOrders])), (hq1, .inl (cI, 10, .inl h_orderOfPiece)), (hq2, .inl (cI, 10, .inl h_lastDay)), (mq, .inr (3, [.ref mq1, .ref mq2, .ref mq3, .ref mq4, .ref mq5, .int m_pieceCount, .int m_orderCount, .int m_pairs, .int m_worthSum, .int m_upToDate])), (mq1, .inl (cI, 100, .inl m_gains)), (mq2, .inl (cI, 11264, .inl m_best)), (mq3, .inl (cI, 10, .inl m_chosen)), (mq4, .inl (cI, 10, .inl m_pieceDuals)), (mq5, .inl (cI, 10, .inl m_orderDuals))] := hD
      refine lv_aload_n hx hb d_S_tick_53 rfl (lv_at hl 0 rfl) ?_
      refine va_get (D := (dC, dI)) (ci := 4) (v := .ref hq) (C := R_S) (T := F_S) (N := 11) hx hb hts hk1 hown hK hP 0 rfl rfl 5 (by decide) hk2 (fun _ h9 => h9) rfl d_S_tick_54 ?_
      refine lv_aload_n hx hb d_S_tick_57 rfl (lv_at hl 0 rfl) ?_
      refine va_get (D := (dC, dI)) (ci := 4) (v := .int (s_today + x1)) (C := R_S) (T := F_S) (N := 11) hx hb hts hk1 hown hK hP 0 rfl rfl 7 (by decide) hk0 (fun _ h9 => h9) rfl d_S_tick_58 ?_
      obtain ⟨⟨u3, u4⟩, hc, hm⟩ := bd hm
      try dsimp only at hm
      have hPc := hP.sub (ws' := [(hq, .inr (2, [.ref hq1, .ref hq2, .int h_heldOrders])), (hq1, .inl (cI, 10, .inl h_orderOfPiece)), (hq2, .inl (cI, 10, .inl h_lastDay))]) [15, 16, 17] rfl
      have hDc := hD.sub (ws' := [(hq, .inr (2, [.ref hq1, .ref hq2, .int h_heldOrders])), (hq1, .inl (cI, 10, .inl h_orderOfPiece)), (hq2, .inl (cI, 10, .inl h_lastDay))]) [15, 16, 17] (by decide) rfl
      have hFc := va_free (wc := [(hq, .inr (2, [.ref hq1, .ref hq2, .int h_heldOrders])), (hq1, .inl (cI, 10, .inl h_orderOfPiece)), (hq2, .inl (cI, 10, .inl h_lastDay))]) hD hS hA [15, 16, 17] rfl
      refine va_callv (va_runV (As := [.int (s_today + x1)]) (rest := []) ⟨hx, hb, hml, hown, hts⟩ (c_H_dropBefore l dC dI cI hq hq1 hq2 H.size h_orderOfPiece h_lastDay h_heldOrders (s_today + x1) N (u3, u4) hc) (cwV 1 hts (gV (w0 582 rfl) (w0 583 rfl) (w0 584 rfl) (w0 31 rfl) (w0 585 rfl)) rfl rfl rfl q_H_dropBefore ⟨Nat.le_of_ble_eq_true rfl, Nat.le_of_ble_eq_true rfl⟩) (wr_preV hK hPc hDc hN 2 0 (R_H, F_H, 3) rfl rfl) rfl rfl hl.1 rfl (lv_room (Nat.le_of_ble_eq_true rfl)) d_S_tick_61 ⟨Nat.le_of_ble_eq_true rfl, Nat.le_of_ble_eq_true rfl⟩) hS (fun q _ h => hFc q h) hFc (fun u t H1 locs ht hvm hw hB hz1 hk1 hS => ?_)
      obtain ⟨hP1, hK1, hD1⟩ := hB
      rw [ht] at hP1
      obtain ⟨hP, hD⟩ := va_join (wr := [(sq, .inr (4, [.ref pq, .ref oq, .ref sq3, .ref sq4, .ref uq, .ref hq, .ref mq, .int (s_today + x1), .int s_cutOff, .int s_agingOff, .int s_saleAge])), (pq, .inr (0, [.ref pq1, .ref pq2, .ref pq3, .ref pq4, .int p_count])), (pq1, .inl (cI, 10, .inl p_thicks)), (pq2, .inl (cI, 10, .inl p_wides)), (pq3, .inl (cI, 10, .inl p_lengths)), (pq4, .inl (cI, 10, .inl p_grades)), (oq, .inr (0, [.ref oq1, .ref oq2, .ref oq3, .ref oq4, .int o_count])), (oq1, .inl (cI, 10, .inl o_thicks)), (oq2, .inl (cI, 10, .inl o_wides)), (oq3, .inl (cI, 10, .inl o_lengths)), (oq4, .inl (cI, 10, .inl o_grades)), (sq3, .inl (cI, 10, .inl s_cameOn)), (sq4, .inl (cI, 100, .inl s_told)), (uq, .inr (1, [.ref uq1, .int u_usedOrders])), (uq1, .inl (cI, 10, .inl u_ordersOfPiece)), (mq, .inr (3, [.ref mq1, .ref mq2, .ref mq3, .ref mq4, .ref mq5, .int m_pieceCount, .int m_orderCount, .int m_pairs, .int m_worthSum, .int m_upToDate])), (mq1, .inl (cI, 100, .inl m_gains)), (mq2, .inl (cI, 11264, .inl m_best)), (mq3, .inl (cI, 10, .inl m_chosen)), (mq4, .inl (cI, 10, .inl m_pieceDuals)), (mq5, .inl (cI, 10, .inl m_orderDuals))]) (w1 := [(hq, .inr (2, [.ref hq1, .ref hq2, .int u4])), (hq1, .inl (cI, 10, .inl u3)), (hq2, .inl (cI, 10, .inl h_lastDay))]) hP hD [15, 16, 17] [0, 1, 2, 3, 4, 5, 6, 7, 8, 9, 10, 11, 12, 13, 14, 18, 19, 20, 21, 22, 23] rfl rfl (by decide) (by decide) hk1 hFc hP1 hD1
      generalize H1 = H at hP hS ⊢
      have hP : va_P (dC, dI) classes [(sq, .inr (4, [.ref pq, .ref oq, .ref sq3, .ref sq4, .ref uq, .ref hq, .ref mq, .int (s_today + x1), .int s_cutOff, .int s_agingOff, .int s_saleAge])), (pq, .inr (0, [.ref pq1, .ref pq2, .ref pq3, .ref pq4, .int p_count])), (pq1, .inl (cI, 10, .inl p_thicks)), (pq2, .inl (cI, 10, .inl p_wides)), (pq3, .inl (cI, 10, .inl p_lengths)), (pq4, .inl (cI, 10, .inl p_grades)), (oq, .inr (0, [.ref oq1, .ref oq2, .ref oq3, .ref oq4, .int o_count])), (oq1, .inl (cI, 10, .inl o_thicks)), (oq2, .inl (cI, 10, .inl o_wides)), (oq3, .inl (cI, 10, .inl o_lengths)), (oq4, .inl (cI, 10, .inl o_grades)), (sq3, .inl (cI, 10, .inl s_cameOn)), (sq4, .inl (cI, 100, .inl s_told)), (uq, .inr (1, [.ref uq1, .int u_usedOrders])), (uq1, .inl (cI, 10, .inl u_ordersOfPiece)), (mq, .inr (3, [.ref mq1, .ref mq2, .ref mq3, .ref mq4, .ref mq5, .int m_pieceCount, .int m_orderCount, .int m_pairs, .int m_worthSum, .int m_upToDate])), (mq1, .inl (cI, 100, .inl m_gains)), (mq2, .inl (cI, 11264, .inl m_best)), (mq3, .inl (cI, 10, .inl m_chosen)), (mq4, .inl (cI, 10, .inl m_pieceDuals)), (mq5, .inl (cI, 10, .inl m_orderDuals)), (hq, .inr (2, [.ref hq1, .ref hq2, .int u4])), (hq1, .inl (cI, 10, .inl u3)), (hq2, .inl (cI, 10, .inl h_lastDay))] H := hP
      have hD : va_D A [(sq, .inr (4, [.ref pq, .ref oq, .ref sq3, .ref sq4, .ref uq, .ref hq, .ref mq, .int (s_today + x1), .int s_cutOff, .int s_agingOff, .int s_saleAge])), (pq, .inr (0, [.ref pq1, .ref pq2, .ref pq3, .ref pq4, .int p_count])), (pq1, .inl (cI, 10, .inl p_thicks)), (pq2, .inl (cI, 10, .inl p_wides)), (pq3, .inl (cI, 10, .inl p_lengths)), (pq4, .inl (cI, 10, .inl p_grades)), (oq, .inr (0, [.ref oq1, .ref oq2, .ref oq3, .ref oq4, .int o_count])), (oq1, .inl (cI, 10, .inl o_thicks)), (oq2, .inl (cI, 10, .inl o_wides)), (oq3, .inl (cI, 10, .inl o_lengths)), (oq4, .inl (cI, 10, .inl o_grades)), (sq3, .inl (cI, 10, .inl s_cameOn)), (sq4, .inl (cI, 100, .inl s_told)), (uq, .inr (1, [.ref uq1, .int u_usedOrders])), (uq1, .inl (cI, 10, .inl u_ordersOfPiece)), (mq, .inr (3, [.ref mq1, .ref mq2, .ref mq3, .ref mq4, .ref mq5, .int m_pieceCount, .int m_orderCount, .int m_pairs, .int m_worthSum, .int m_upToDate])), (mq1, .inl (cI, 100, .inl m_gains)), (mq2, .inl (cI, 11264, .inl m_best)), (mq3, .inl (cI, 10, .inl m_chosen)), (mq4, .inl (cI, 10, .inl m_pieceDuals)), (mq5, .inl (cI, 10, .inl m_orderDuals)), (hq, .inr (2, [.ref hq1, .ref hq2, .int u4])), (hq1, .inl (cI, 10, .inl u3)), (hq2, .inl (cI, 10, .inl h_lastDay))] := hD
      clear hP1 hD1 hPc hDc hFc hk1 hz1
      refine lv_aload_n hx hb d_S_tick_64 rfl (lv_at hl 0 rfl) ?_
      refine va_get (D := (dC, dI)) (ci := 4) (v := .int (s_today + x1)) (C := R_S) (T := F_S) (N := 11) hx hb hts hk1 hown hK hP 0 rfl rfl 7 (by decide) hk0 (fun _ h9 => h9) rfl d_S_tick_65 ?_
      cases hm
      have hP := hP.sub (ws' := [(sq, .inr (4, [.ref pq, .ref oq, .ref sq3, .ref sq4, .ref uq, .ref hq, .ref mq, .int (s_today + x1), .int s_cutOff, .int s_agingOff, .int s_saleAge])), (pq, .inr (0, [.ref pq1, .ref pq2, .ref pq3, .ref pq4, .int p_count])), (pq1, .inl (cI, 10, .inl p_thicks)), (pq2, .inl (cI, 10, .inl p_wides)), (pq3, .inl (cI, 10, .inl p_lengths)), (pq4, .inl (cI, 10, .inl p_grades)), (oq, .inr (0, [.ref oq1, .ref oq2, .ref oq3, .ref oq4, .int o_count])), (oq1, .inl (cI, 10, .inl o_thicks)), (oq2, .inl (cI, 10, .inl o_wides)), (oq3, .inl (cI, 10, .inl o_lengths)), (oq4, .inl (cI, 10, .inl o_grades)), (sq3, .inl (cI, 10, .inl s_cameOn)), (sq4, .inl (cI, 100, .inl s_told)), (uq, .inr (1, [.ref uq1, .int u_usedOrders])), (uq1, .inl (cI, 10, .inl u_ordersOfPiece)), (hq, .inr (2, [.ref hq1, .ref hq2, .int u4])), (hq1, .inl (cI, 10, .inl u3)), (hq2, .inl (cI, 10, .inl h_lastDay)), (mq, .inr (3, [.ref mq1, .ref mq2, .ref mq3, .ref mq4, .ref mq5, .int m_pieceCount, .int m_orderCount, .int m_pairs, .int m_worthSum, .int m_upToDate])), (mq1, .inl (cI, 100, .inl m_gains)), (mq2, .inl (cI, 11264, .inl m_best)), (mq3, .inl (cI, 10, .inl m_chosen)), (mq4, .inl (cI, 10, .inl m_pieceDuals)), (mq5, .inl (cI, 10, .inl m_orderDuals))]) [0, 1, 2, 3, 4, 5, 6, 7, 8, 9, 10, 11, 12, 13, 14, 21, 22, 23, 15, 16, 17, 18, 19, 20] rfl
      have hD := hD.sub (ws' := [(sq, .inr (4, [.ref pq, .ref oq, .ref sq3, .ref sq4, .ref uq, .ref hq, .ref mq, .int (s_today + x1), .int s_cutOff, .int s_agingOff, .int s_saleAge])), (pq, .inr (0, [.ref pq1, .ref pq2, .ref pq3, .ref pq4, .int p_count])), (pq1, .inl (cI, 10, .inl p_thicks)), (pq2, .inl (cI, 10, .inl p_wides)), (pq3, .inl (cI, 10, .inl p_lengths)), (pq4, .inl (cI, 10, .inl p_grades)), (oq, .inr (0, [.ref oq1, .ref oq2, .ref oq3, .ref oq4, .int o_count])), (oq1, .inl (cI, 10, .inl o_thicks)), (oq2, .inl (cI, 10, .inl o_wides)), (oq3, .inl (cI, 10, .inl o_lengths)), (oq4, .inl (cI, 10, .inl o_grades)), (sq3, .inl (cI, 10, .inl s_cameOn)), (sq4, .inl (cI, 100, .inl s_told)), (uq, .inr (1, [.ref uq1, .int u_usedOrders])), (uq1, .inl (cI, 10, .inl u_ordersOfPiece)), (hq, .inr (2, [.ref hq1, .ref hq2, .int u4])), (hq1, .inl (cI, 10, .inl u3)), (hq2, .inl (cI, 10, .inl h_lastDay)), (mq, .inr (3, [.ref mq1, .ref mq2, .ref mq3, .ref mq4, .ref mq5, .int m_pieceCount, .int m_orderCount, .int m_pairs, .int m_worthSum, .int m_upToDate])), (mq1, .inl (cI, 100, .inl m_gains)), (mq2, .inl (cI, 11264, .inl m_best)), (mq3, .inl (cI, 10, .inl m_chosen)), (mq4, .inl (cI, 10, .inl m_pieceDuals)), (mq5, .inl (cI, 10, .inl m_orderDuals))]) [0, 1, 2, 3, 4, 5, 6, 7, 8, 9, 10, 11, 12, 13, 14, 21, 22, 23, 15, 16, 17, 18, 19, 20] (by decide) rfl
      refine W.widen (k := 0) (n := 0) (Nat.le_of_ble_eq_true rfl) (Nat.le_of_ble_eq_true rfl) ?_
      exact W.iret hx hb hr (fun t ht hW => ⟨⟨_, (), rfl, rfl, by rw [ht]; exact hP, va_K.moved hW.alike hK, hD⟩, hS.F ht⟩) hS.2.2 d_S_tick_68
    · replace hm := if_f c9 hm
      cases hm
  · replace hm := if_t c9 hm
    cases hm
set_option maxHeartbeats 4000000 in
set_option maxRecDepth 100000 in
theorem x_S_tick (l : Launch) (dC : Nat → ClassId) (dI : Nat → Nat → Nat) (cI : ClassId) (sq pq pq1 pq2 pq3 pq4 oq oq1 oq2 oq3 oq4 sq3 sq4 uq uq1 hq hq1 hq2 mq mq1 mq2 mq3 mq4 mq5 : Nat) (sz : Nat) (p_thicks : Nat → Int32) (p_wides : Nat → Int32) (p_lengths : Nat → Int32) (p_grades : Nat → Int32) (p_count : Int32) (o_thicks : Nat → Int32) (o_wides : Nat → Int32) (o_lengths : Nat → Int32) (o_grades : Nat → Int32) (o_count : Int32) (s_cameOn : Nat → Int32) (s_told : Nat → Int32) (u_ordersOfPiece : Nat → Int32) (u_usedOrders : Int32) (h_orderOfPiece : Nat → Int32) (h_lastDay : Nat → Int32) (h_heldOrders : Int32) (m_gains : Nat → Int32) (m_best : Nat → Int32) (m_chosen : Nat → Int32) (m_pieceDuals : Nat → Int32) (m_orderDuals : Nat → Int32) (m_pieceCount : Int32) (m_orderCount : Int32) (m_pairs : Int32) (m_worthSum : Int32) (m_upToDate : Int32) (s_today : Int32) (s_cutOff : Int32) (s_agingOff : Int32) (s_saleAge : Int32) (x1 : Int32) (N : Nat) (k : Nat) (hst : l.stackTraces = false) (hm : m_S_tick N h_orderOfPiece h_lastDay h_heldOrders s_today x1 = some (.inl k)) : xt_Met l y_S_tick w_S_tick ({ frames := 6, cells := 1, slots := 6, locals := 96 } : Room) (va_Pc [.ref sq, .int x1] (fun U => U.heap.size = sz ∧ va_P (dC, dI) classes [(sq, .inr (4, [.ref pq, .ref oq, .ref sq3, .ref sq4, .ref uq, .ref hq, .ref mq, .int s_today, .int s_cutOff, .int s_agingOff, .int s_saleAge])), (pq, .inr (0, [.ref pq1, .ref pq2, .ref pq3, .ref pq4, .int p_count])), (pq1, .inl (cI, 10, .inl p_thicks)), (pq2, .inl (cI, 10, .inl p_wides)), (pq3, .inl (cI, 10, .inl p_lengths)), (pq4, .inl (cI, 10, .inl p_grades)), (oq, .inr (0, [.ref oq1, .ref oq2, .ref oq3, .ref oq4, .int o_count])), (oq1, .inl (cI, 10, .inl o_thicks)), (oq2, .inl (cI, 10, .inl o_wides)), (oq3, .inl (cI, 10, .inl o_lengths)), (oq4, .inl (cI, 10, .inl o_grades)), (sq3, .inl (cI, 10, .inl s_cameOn)), (sq4, .inl (cI, 100, .inl s_told)), (uq, .inr (1, [.ref uq1, .int u_usedOrders])), (uq1, .inl (cI, 10, .inl u_ordersOfPiece)), (hq, .inr (2, [.ref hq1, .ref hq2, .int h_heldOrders])), (hq1, .inl (cI, 10, .inl h_orderOfPiece)), (hq2, .inl (cI, 10, .inl h_lastDay)), (mq, .inr (3, [.ref mq1, .ref mq2, .ref mq3, .ref mq4, .ref mq5, .int m_pieceCount, .int m_orderCount, .int m_pairs, .int m_worthSum, .int m_upToDate])), (mq1, .inl (cI, 100, .inl m_gains)), (mq2, .inl (cI, 11264, .inl m_best)), (mq3, .inl (cI, 10, .inl m_chosen)), (mq4, .inl (cI, 10, .inl m_pieceDuals)), (mq5, .inl (cI, 10, .inl m_orderDuals))] U.heap ∧ va_K (dC, dI) classes [(cI, .int)] U ∧ va_D (fun _ => True) [(sq, .inr (4, [.ref pq, .ref oq, .ref sq3, .ref sq4, .ref uq, .ref hq, .ref mq, .int s_today, .int s_cutOff, .int s_agingOff, .int s_saleAge])), (pq, .inr (0, [.ref pq1, .ref pq2, .ref pq3, .ref pq4, .int p_count])), (pq1, .inl (cI, 10, .inl p_thicks)), (pq2, .inl (cI, 10, .inl p_wides)), (pq3, .inl (cI, 10, .inl p_lengths)), (pq4, .inl (cI, 10, .inl p_grades)), (oq, .inr (0, [.ref oq1, .ref oq2, .ref oq3, .ref oq4, .int o_count])), (oq1, .inl (cI, 10, .inl o_thicks)), (oq2, .inl (cI, 10, .inl o_wides)), (oq3, .inl (cI, 10, .inl o_lengths)), (oq4, .inl (cI, 10, .inl o_grades)), (sq3, .inl (cI, 10, .inl s_cameOn)), (sq4, .inl (cI, 100, .inl s_told)), (uq, .inr (1, [.ref uq1, .int u_usedOrders])), (uq1, .inl (cI, 10, .inl u_ordersOfPiece)), (hq, .inr (2, [.ref hq1, .ref hq2, .int h_heldOrders])), (hq1, .inl (cI, 10, .inl h_orderOfPiece)), (hq2, .inl (cI, 10, .inl h_lastDay)), (mq, .inr (3, [.ref mq1, .ref mq2, .ref mq3, .ref mq4, .ref mq5, .int m_pieceCount, .int m_orderCount, .int m_pairs, .int m_worthSum, .int m_upToDate])), (mq1, .inl (cI, 100, .inl m_gains)), (mq2, .inl (cI, 11264, .inl m_best)), (mq3, .inl (cI, 10, .inl m_chosen)), (mq4, .inl (cI, 10, .inl m_pieceDuals)), (mq5, .inl (cI, 10, .inl m_orderDuals))] ∧ nw U ∧ xE xTx U U.heap)) (xn k) := by
  unfold m_S_tick at hm
  refine xt_ofW (cc := b_S_tick) (maxL := 2) (ret := (some .int)) (by decide) rfl ?_
  intro p e s m args below meth c s₁ B hml hout hv
  obtain ⟨rfl, hsz, hP, hK, hD0, hN, hE⟩ := hv
  have hx := B.exec
  have hb := B.bytes
  have hr := B.returns
  have hts := atoms_spec (ws := w_S_tick) B.pre
  have hown : s.vm.findClass R_S = some m.cls := findClass_of_methodNamed B.named
  have hlocks := B.notSynchronized
  subst hsz
  have hD := hD0.self (sz := s.heap.size)
  generalize hAe : va_A [(sq, .inr (4, [.ref pq, .ref oq, .ref sq3, .ref sq4, .ref uq, .ref hq, .ref mq, .int s_today, .int s_cutOff, .int s_agingOff, .int s_saleAge])), (pq, .inr (0, [.ref pq1, .ref pq2, .ref pq3, .ref pq4, .int p_count])), (pq1, .inl (cI, 10, .inl p_thicks)), (pq2, .inl (cI, 10, .inl p_wides)), (pq3, .inl (cI, 10, .inl p_lengths)), (pq4, .inl (cI, 10, .inl p_grades)), (oq, .inr (0, [.ref oq1, .ref oq2, .ref oq3, .ref oq4, .int o_count])), (oq1, .inl (cI, 10, .inl o_thicks)), (oq2, .inl (cI, 10, .inl o_wides)), (oq3, .inl (cI, 10, .inl o_lengths)), (oq4, .inl (cI, 10, .inl o_grades)), (sq3, .inl (cI, 10, .inl s_cameOn)), (sq4, .inl (cI, 100, .inl s_told)), (uq, .inr (1, [.ref uq1, .int u_usedOrders])), (uq1, .inl (cI, 10, .inl u_ordersOfPiece)), (hq, .inr (2, [.ref hq1, .ref hq2, .int h_heldOrders])), (hq1, .inl (cI, 10, .inl h_orderOfPiece)), (hq2, .inl (cI, 10, .inl h_lastDay)), (mq, .inr (3, [.ref mq1, .ref mq2, .ref mq3, .ref mq4, .ref mq5, .int m_pieceCount, .int m_orderCount, .int m_pairs, .int m_worthSum, .int m_upToDate])), (mq1, .inl (cI, 100, .inl m_gains)), (mq2, .inl (cI, 11264, .inl m_best)), (mq3, .inl (cI, 10, .inl m_chosen)), (mq4, .inl (cI, 10, .inl m_pieceDuals)), (mq5, .inl (cI, 10, .inl m_orderDuals))] s.heap.size = A at hD
  have hA : ∀ q : Nat, s.heap.size ≤ q → A q := fun q h => by rw [← hAe]; exact Or.inr h
  have hS : va_S A s.heap s.heap [] := va_S.rf
  have hk0 := hts (.fieldLink R_S 62 "SurplusMatch" "today" "I") (List.mem_cons_of_mem _ (w0 148 rfl))
  have hk1 : ∀ w ∈ w_S, w ∈ w_S_tick := fun w h => List.mem_cons_of_mem _ (i_S w h)
  have hk2 := hts (.fieldLink R_S 36 "SurplusMatch" "holds" "LSurplusMatch$Holds;") (List.mem_cons_of_mem _ (w0 146 rfl))
  have hk3 := hts (.classLink R_S 74 "java/lang/IllegalArgumentException") (List.mem_cons_of_mem _ (w0 304 rfl))
  have hk4 := hts (.initialized "java/lang/IllegalArgumentException") (List.mem_cons_of_mem _ (w0 37 rfl))
  have hl := lv_entry ([.ref sq, .int x1]) (n := 2) (Nat.le_of_ble_eq_true rfl)
  rw [lg_entry_eq]
  generalize (lg_sl ([.ref sq, .int x1]) ++ List.replicate (2 - (lg_sl ([.ref sq, .int x1])).length) Slot.unset).toArray = ls at hl ⊢
  have hl : lv_has ls 2 [(0, .ref sq), (1, .int x1)] := hl
  refine lv_iload_n hx hb d_S_tick_0 rfl (lv_at hl 1 rfl) ?_
  refine lv_iconst (v := 1) hx hb d_S_tick_1 (by decide) ?_
  refine lv_sipush (v := 1000) hx hb d_S_tick_2 (by decide) ?_
  obtain ⟨r1, hc, hm⟩ := bd hm
  try dsimp only at hm
  refine vp_callSi (W.runS (As := [.int x1, .int 1, .int 1000]) (rest := []) ⟨hx, hb, hml, hown, hts⟩ (c_S_isWithin l dC dI cI x1 1 1000 N r1 hc) (cwS 3 hts (gS (w0 301 rfl) (w0 302 rfl) (w0 28 rfl) (w0 303 rfl)) rfl rfl rfl q_S_isWithin ⟨Nat.le_of_ble_eq_true rfl, Nat.le_of_ble_eq_true rfl⟩) ro_pre0 rfl rfl hl.1 rfl (lv_room (Nat.le_of_ble_eq_true rfl)) d_S_tick_5 ⟨Nat.le_of_ble_eq_true rfl, Nat.le_of_ble_eq_true rfl⟩) (fun r9 hr9 => ?_)
  subst hr9
  refine lv_if_ne (tgt := 21) hx hb d_S_tick_8 (by decide) (fun c9 => ?_) (fun c9 => ?_)
  · replace hm := if_f c9 hm
    refine lv_aload_n hx hb d_S_tick_21 rfl (lv_at hl 0 rfl) ?_
    refine va_get (D := (dC, dI)) (ci := 4) (v := .int s_today) (C := R_S) (T := F_S) (N := 11) hx hb hts hk1 hown hK hP 0 rfl rfl 7 (by decide) hk0 (fun _ h9 => h9) rfl d_S_tick_22 ?_
    refine lv_iload_n hx hb d_S_tick_25 rfl (lv_at hl 1 rfl) ?_
    refine lv_iadd hx hb d_S_tick_26 ?_
    refine lv_sipush (v := 9999) hx hb d_S_tick_27 (by decide) ?_
    refine lv_icmp_le (tgt := 43) hx hb d_S_tick_30 (by decide) (fun c9 => ?_) (fun c9 => ?_)
    · replace hm := if_t c9 hm
      refine lv_aload_n hx hb d_S_tick_43 rfl (lv_at hl 0 rfl) ?_
      refine lv_dup hx hb d_S_tick_44 rfl ?_
      refine va_get (D := (dC, dI)) (ci := 4) (v := .int s_today) (C := R_S) (T := F_S) (N := 11) hx hb hts hk1 hown hK hP 0 rfl rfl 7 (by decide) hk0 (fun _ h9 => h9) rfl d_S_tick_45 ?_
      refine lv_iload_n hx hb d_S_tick_48 rfl (lv_at hl 1 rfl) ?_
      refine lv_iadd hx hb d_S_tick_49 ?_
      refine va_put (D := (dC, dI)) (ci := 4) (v := .int (s_today + x1)) (ty := .int) (C := R_S) (T := F_S) (N := 11) hx hb hts hk1 t_S t_S_ok n_S hown hK hP hD hS 0 rfl rfl 7 (by decide) hk0 (fun _ h9 => h9) rfl (by decide +kernel) rfl rfl (Nat.le_of_ble_eq_true rfl) d_S_tick_50 (fun H locs hP hD hS => ?_)
      have hP : va_P (dC, dI) classes [(sq, .inr (4, [.ref pq, .ref oq, .ref sq3, .ref sq4, .ref uq, .ref hq, .ref mq, .int (s_today + x1), .int s_cutOff, .int s_agingOff, .int s_saleAge])), (pq, .inr (0, [.ref pq1, .ref pq2, .ref pq3, .ref pq4, .int p_count])), (pq1, .inl (cI, 10, .inl p_thicks)), (pq2, .inl (cI, 10, .inl p_wides)), (pq3, .inl (cI, 10, .inl p_lengths)), (pq4, .inl (cI, 10, .inl p_grades)), (oq, .inr (0, [.ref oq1, .ref oq2, .ref oq3, .ref oq4, .int o_count])), (oq1, .inl (cI, 10, .inl o_thicks)), (oq2, .inl (cI, 10, .inl o_wides)), (oq3, .inl (cI, 10, .inl o_lengths)), (oq4, .inl (cI, 10, .inl o_grades)), (sq3, .inl (cI, 10, .inl s_cameOn)), (sq4, .inl (cI, 100, .inl s_told)), (uq, .inr (1, [.ref uq1, .int u_usedOrders])), (uq1, .inl (cI, 10, .inl u_ordersOfPiece)), (hq, .inr (2, [.ref hq1, .ref hq2, .int h_heldOrders])), (hq1, .inl (cI, 10, .inl h_orderOfPiece)), (hq2, .inl (cI, 10, .inl h_lastDay)), (mq, .inr (3, [.ref mq1, .ref mq2, .ref mq3, .ref mq4, .ref mq5, .int m_pieceCount, .int m_orderCount, .int m_pairs, .int m_worthSum, .int m_upToDate])), (mq1, .inl (cI, 100, .inl m_gains)), (mq2, .inl (cI, 11264, .inl m_best)), (mq3, .inl (cI, 10, .inl m_chosen)), (mq4, .inl (cI, 10, .inl m_pieceDuals)), (mq5, .inl (cI, 10, .inl m_orderDuals))] H := hP
      have hD : va_D A [(sq, .inr (4, [.ref pq, .ref oq, .ref sq3, .ref sq4, .ref uq, .ref hq, .ref mq, .int (s_today + x1), .int s_cutOff, .int s_agingOff, .int s_saleAge])), (pq, .inr (0, [.ref pq1, .ref pq2, .ref pq3, .ref pq4, .int p_count])), (pq1, .inl (cI, 10, .inl p_thicks)), (pq2, .inl (cI, 10, .inl p_wides)), (pq3, .inl (cI, 10, .inl p_lengths)), (pq4, .inl (cI, 10, .inl p_grades)), (oq, .inr (0, [.ref oq1, .ref oq2, .ref oq3, .ref oq4, .int o_count])), (oq1, .inl (cI, 10, .inl o_thicks)), (oq2, .inl (cI, 10, .inl o_wides)), (oq3, .inl (cI, 10, .inl o_lengths)), (oq4, .inl (cI, 10, .inl o_grades)), (sq3, .inl (cI, 10, .inl s_cameOn)), (sq4, .inl (cI, 100, .inl s_told)), (uq, .inr (1, [.ref uq1, .int u_usedOrders])), (uq1, .inl (cI, 10, .inl u_ordersOfPiece)), (hq, .inr (2, [.ref hq1, .ref hq2, .int h_heldOrders])), (hq1, .inl (cI, 10, .inl h_orderOfPiece)), (hq2, .inl (cI, 10, .inl h_lastDay)), (mq, .inr (3, [.ref mq1, .ref mq2, .ref mq3, .ref mq4, .ref mq5, .int m_pieceCount, .int m_orderCount, .int m_pairs, .int m_worthSum, .int m_upToDate])), (mq1, .inl (cI, 100, .inl m_gains)), (mq2, .inl (cI, 11264, .inl m_best)), (mq3, .inl (cI, 10, .inl m_chosen)), (mq4, .inl (cI, 10, .inl m_pieceDuals)), (mq5, .inl (cI, 10, .inl m_orderDuals))] := hD
      refine lv_aload_n hx hb d_S_tick_53 rfl (lv_at hl 0 rfl) ?_
      refine va_get (D := (dC, dI)) (ci := 4) (v := .ref hq) (C := R_S) (T := F_S) (N := 11) hx hb hts hk1 hown hK hP 0 rfl rfl 5 (by decide) hk2 (fun _ h9 => h9) rfl d_S_tick_54 ?_
      refine lv_aload_n hx hb d_S_tick_57 rfl (lv_at hl 0 rfl) ?_
      refine va_get (D := (dC, dI)) (ci := 4) (v := .int (s_today + x1)) (C := R_S) (T := F_S) (N := 11) hx hb hts hk1 hown hK hP 0 rfl rfl 7 (by decide) hk0 (fun _ h9 => h9) rfl d_S_tick_58 ?_
      obtain ⟨⟨u3, u4⟩, hc, hm⟩ := bd hm
      try dsimp only at hm
      have hPc := hP.sub (ws' := [(hq, .inr (2, [.ref hq1, .ref hq2, .int h_heldOrders])), (hq1, .inl (cI, 10, .inl h_orderOfPiece)), (hq2, .inl (cI, 10, .inl h_lastDay))]) [15, 16, 17] rfl
      have hDc := hD.sub (ws' := [(hq, .inr (2, [.ref hq1, .ref hq2, .int h_heldOrders])), (hq1, .inl (cI, 10, .inl h_orderOfPiece)), (hq2, .inl (cI, 10, .inl h_lastDay))]) [15, 16, 17] (by decide) rfl
      have hFc := va_free (wc := [(hq, .inr (2, [.ref hq1, .ref hq2, .int h_heldOrders])), (hq1, .inl (cI, 10, .inl h_orderOfPiece)), (hq2, .inl (cI, 10, .inl h_lastDay))]) hD hS hA [15, 16, 17] rfl
      refine va_callv (va_runV (As := [.int (s_today + x1)]) (rest := []) ⟨hx, hb, hml, hown, hts⟩ (c_H_dropBefore l dC dI cI hq hq1 hq2 H.size h_orderOfPiece h_lastDay h_heldOrders (s_today + x1) N (u3, u4) hc) (cwV 1 hts (gV (w0 582 rfl) (w0 583 rfl) (w0 584 rfl) (w0 31 rfl) (w0 585 rfl)) rfl rfl rfl q_H_dropBefore ⟨Nat.le_of_ble_eq_true rfl, Nat.le_of_ble_eq_true rfl⟩) (wr_preV hK hPc hDc hN 2 0 (R_H, F_H, 3) rfl rfl) rfl rfl hl.1 rfl (lv_room (Nat.le_of_ble_eq_true rfl)) d_S_tick_61 ⟨Nat.le_of_ble_eq_true rfl, Nat.le_of_ble_eq_true rfl⟩) hS (fun q _ h => hFc q h) hFc (fun u t H1 locs ht hvm hw hB hz1 hk1 hS => ?_)
      obtain ⟨hP1, hK1, hD1⟩ := hB
      rw [ht] at hP1
      obtain ⟨hP, hD⟩ := va_join (wr := [(sq, .inr (4, [.ref pq, .ref oq, .ref sq3, .ref sq4, .ref uq, .ref hq, .ref mq, .int (s_today + x1), .int s_cutOff, .int s_agingOff, .int s_saleAge])), (pq, .inr (0, [.ref pq1, .ref pq2, .ref pq3, .ref pq4, .int p_count])), (pq1, .inl (cI, 10, .inl p_thicks)), (pq2, .inl (cI, 10, .inl p_wides)), (pq3, .inl (cI, 10, .inl p_lengths)), (pq4, .inl (cI, 10, .inl p_grades)), (oq, .inr (0, [.ref oq1, .ref oq2, .ref oq3, .ref oq4, .int o_count])), (oq1, .inl (cI, 10, .inl o_thicks)), (oq2, .inl (cI, 10, .inl o_wides)), (oq3, .inl (cI, 10, .inl o_lengths)), (oq4, .inl (cI, 10, .inl o_grades)), (sq3, .inl (cI, 10, .inl s_cameOn)), (sq4, .inl (cI, 100, .inl s_told)), (uq, .inr (1, [.ref uq1, .int u_usedOrders])), (uq1, .inl (cI, 10, .inl u_ordersOfPiece)), (mq, .inr (3, [.ref mq1, .ref mq2, .ref mq3, .ref mq4, .ref mq5, .int m_pieceCount, .int m_orderCount, .int m_pairs, .int m_worthSum, .int m_upToDate])), (mq1, .inl (cI, 100, .inl m_gains)), (mq2, .inl (cI, 11264, .inl m_best)), (mq3, .inl (cI, 10, .inl m_chosen)), (mq4, .inl (cI, 10, .inl m_pieceDuals)), (mq5, .inl (cI, 10, .inl m_orderDuals))]) (w1 := [(hq, .inr (2, [.ref hq1, .ref hq2, .int u4])), (hq1, .inl (cI, 10, .inl u3)), (hq2, .inl (cI, 10, .inl h_lastDay))]) hP hD [15, 16, 17] [0, 1, 2, 3, 4, 5, 6, 7, 8, 9, 10, 11, 12, 13, 14, 18, 19, 20, 21, 22, 23] rfl rfl (by decide) (by decide) hk1 hFc hP1 hD1
      generalize H1 = H at hP hS ⊢
      have hP : va_P (dC, dI) classes [(sq, .inr (4, [.ref pq, .ref oq, .ref sq3, .ref sq4, .ref uq, .ref hq, .ref mq, .int (s_today + x1), .int s_cutOff, .int s_agingOff, .int s_saleAge])), (pq, .inr (0, [.ref pq1, .ref pq2, .ref pq3, .ref pq4, .int p_count])), (pq1, .inl (cI, 10, .inl p_thicks)), (pq2, .inl (cI, 10, .inl p_wides)), (pq3, .inl (cI, 10, .inl p_lengths)), (pq4, .inl (cI, 10, .inl p_grades)), (oq, .inr (0, [.ref oq1, .ref oq2, .ref oq3, .ref oq4, .int o_count])), (oq1, .inl (cI, 10, .inl o_thicks)), (oq2, .inl (cI, 10, .inl o_wides)), (oq3, .inl (cI, 10, .inl o_lengths)), (oq4, .inl (cI, 10, .inl o_grades)), (sq3, .inl (cI, 10, .inl s_cameOn)), (sq4, .inl (cI, 100, .inl s_told)), (uq, .inr (1, [.ref uq1, .int u_usedOrders])), (uq1, .inl (cI, 10, .inl u_ordersOfPiece)), (mq, .inr (3, [.ref mq1, .ref mq2, .ref mq3, .ref mq4, .ref mq5, .int m_pieceCount, .int m_orderCount, .int m_pairs, .int m_worthSum, .int m_upToDate])), (mq1, .inl (cI, 100, .inl m_gains)), (mq2, .inl (cI, 11264, .inl m_best)), (mq3, .inl (cI, 10, .inl m_chosen)), (mq4, .inl (cI, 10, .inl m_pieceDuals)), (mq5, .inl (cI, 10, .inl m_orderDuals)), (hq, .inr (2, [.ref hq1, .ref hq2, .int u4])), (hq1, .inl (cI, 10, .inl u3)), (hq2, .inl (cI, 10, .inl h_lastDay))] H := hP
      have hD : va_D A [(sq, .inr (4, [.ref pq, .ref oq, .ref sq3, .ref sq4, .ref uq, .ref hq, .ref mq, .int (s_today + x1), .int s_cutOff, .int s_agingOff, .int s_saleAge])), (pq, .inr (0, [.ref pq1, .ref pq2, .ref pq3, .ref pq4, .int p_count])), (pq1, .inl (cI, 10, .inl p_thicks)), (pq2, .inl (cI, 10, .inl p_wides)), (pq3, .inl (cI, 10, .inl p_lengths)), (pq4, .inl (cI, 10, .inl p_grades)), (oq, .inr (0, [.ref oq1, .ref oq2, .ref oq3, .ref oq4, .int o_count])), (oq1, .inl (cI, 10, .inl o_thicks)), (oq2, .inl (cI, 10, .inl o_wides)), (oq3, .inl (cI, 10, .inl o_lengths)), (oq4, .inl (cI, 10, .inl o_grades)), (sq3, .inl (cI, 10, .inl s_cameOn)), (sq4, .inl (cI, 100, .inl s_told)), (uq, .inr (1, [.ref uq1, .int u_usedOrders])), (uq1, .inl (cI, 10, .inl u_ordersOfPiece)), (mq, .inr (3, [.ref mq1, .ref mq2, .ref mq3, .ref mq4, .ref mq5, .int m_pieceCount, .int m_orderCount, .int m_pairs, .int m_worthSum, .int m_upToDate])), (mq1, .inl (cI, 100, .inl m_gains)), (mq2, .inl (cI, 11264, .inl m_best)), (mq3, .inl (cI, 10, .inl m_chosen)), (mq4, .inl (cI, 10, .inl m_pieceDuals)), (mq5, .inl (cI, 10, .inl m_orderDuals)), (hq, .inr (2, [.ref hq1, .ref hq2, .int u4])), (hq1, .inl (cI, 10, .inl u3)), (hq2, .inl (cI, 10, .inl h_lastDay))] := hD
      clear hP1 hD1 hPc hDc hFc hk1 hz1
      refine lv_aload_n hx hb d_S_tick_64 rfl (lv_at hl 0 rfl) ?_
      refine va_get (D := (dC, dI)) (ci := 4) (v := .int (s_today + x1)) (C := R_S) (T := F_S) (N := 11) hx hb hts hk1 hown hK hP 0 rfl rfl 7 (by decide) hk0 (fun _ h9 => h9) rfl d_S_tick_65 ?_
      cases hm
    · replace hm := if_f c9 hm
      cases hm
      obtain ⟨sa, hsa⟩ := hE.2.2.2.2 (211, "beyond day 9,999") (List.mem_of_getElem? (i := 13) rfl)
      exact xt_throw (cls := "java/lang/IllegalArgumentException") (names := xnm) hx hb hst hown (by decide +kernel) xnm_fit hk3 hk4 hsa (hat_2 hts hE) (hl.1.trans hml.symm) d_S_tick_33 d_S_tick_36 d_S_tick_37 d_S_tick_39 d_S_tick_42 hout (Nat.le_of_ble_eq_true rfl) (Nat.le_of_ble_eq_true rfl) (Nat.le_of_ble_eq_true rfl) (Nat.le_of_ble_eq_true rfl) hlocks
  · replace hm := if_t c9 hm
    cases hm
    obtain ⟨sa, hsa⟩ := hE.2.2.2.2 (209, "the days are not 1 .. 1,000") (List.mem_of_getElem? (i := 12) rfl)
    exact xt_throw (cls := "java/lang/IllegalArgumentException") (names := xnm) hx hb hst hown (by decide +kernel) xnm_fit hk3 hk4 hsa (hat_2 hts hE) (hl.1.trans hml.symm) d_S_tick_11 d_S_tick_14 d_S_tick_15 d_S_tick_17 d_S_tick_20 hout (Nat.le_of_ble_eq_true rfl) (Nat.le_of_ble_eq_true rfl) (Nat.le_of_ble_eq_true rfl) (Nat.le_of_ble_eq_true rfl) hlocks

