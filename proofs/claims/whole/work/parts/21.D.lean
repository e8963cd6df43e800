theorem d_D_piece_0 : decode b_D_piece 0 = .ok (.aload_n 0, 1) := by decide +kernel
theorem d_D_piece_1 : decode b_D_piece 1 = .ok (.iload_n 1, 1) := by decide +kernel
theorem d_D_piece_2 : decode b_D_piece 2 = .ok (.iload_n 2, 1) := by decide +kernel
theorem d_D_piece_3 : decode b_D_piece 3 = .ok (.iload_n 3, 1) := by decide +kernel
theorem d_D_piece_4 : decode b_D_piece 4 = .ok (.iload 4, 2) := by decide +kernel
theorem d_D_piece_6 : decode b_D_piece 6 = .ok (.invokestatic 62, 3) := by decide +kernel
theorem d_D_piece_9 : decode b_D_piece 9 = .ok (.aload_n 0, 1) := by decide +kernel
theorem d_D_piece_10 : decode b_D_piece 10 = .ok (.getfield 52, 3) := by decide +kernel
theorem d_D_piece_13 : decode b_D_piece 13 = .ok (.bipush 10, 2) := by decide +kernel
theorem d_D_piece_15 : decode b_D_piece 15 = .ok (.if_icmp .ge 7, 3) := by decide +kernel
theorem d_D_piece_18 : decode b_D_piece 18 = .ok (.iconst 1, 1) := by decide +kernel
theorem d_D_piece_19 : decode b_D_piece 19 = .ok (.goto 4, 3) := by decide +kernel
theorem d_D_piece_22 : decode b_D_piece 22 = .ok (.iconst 0, 1) := by decide +kernel
theorem d_D_piece_23 : decode b_D_piece 23 = .ok (.iconst 1, 1) := by decide +kernel
theorem d_D_piece_24 : decode b_D_piece 24 = .ok (.iconst 1, 1) := by decide +kernel
theorem d_D_piece_25 : decode b_D_piece 25 = .ok (.invokevirtual 66, 3) := by decide +kernel
theorem d_D_piece_28 : decode b_D_piece 28 = .ok (.ifCond .ne 5, 3) := by decide +kernel
theorem d_D_piece_31 : decode b_D_piece 31 = .ok (.iconst 0, 1) := by decide +kernel
theorem d_D_piece_32 : decode b_D_piece 32 = .ok (.ireturn, 1) := by decide +kernel
theorem d_D_piece_33 : decode b_D_piece 33 = .ok (.iconst 4, 1) := by decide +kernel
theorem d_D_piece_34 : decode b_D_piece 34 = .ok (.aload_n 0, 1) := by decide +kernel
theorem d_D_piece_35 : decode b_D_piece 35 = .ok (.getfield 52, 3) := by decide +kernel
theorem d_D_piece_38 : decode b_D_piece 38 = .ok (.imul, 1) := by decide +kernel
theorem d_D_piece_39 : decode b_D_piece 39 = .ok (.istore 5, 2) := by decide +kernel
theorem d_D_piece_41 : decode b_D_piece 41 = .ok (.aload_n 0, 1) := by decide +kernel
theorem d_D_piece_42 : decode b_D_piece 42 = .ok (.getfield 13, 3) := by decide +kernel
theorem d_D_piece_45 : decode b_D_piece 45 = .ok (.iload 5, 2) := by decide +kernel
theorem d_D_piece_47 : decode b_D_piece 47 = .ok (.iload_n 1, 1) := by decide +kernel
theorem d_D_piece_48 : decode b_D_piece 48 = .ok (.iastore, 1) := by decide +kernel
theorem d_D_piece_49 : decode b_D_piece 49 = .ok (.aload_n 0, 1) := by decide +kernel
theorem d_D_piece_50 : decode b_D_piece 50 = .ok (.getfield 13, 3) := by decide +kernel
theorem d_D_piece_53 : decode b_D_piece 53 = .ok (.iload 5, 2) := by decide +kernel
theorem d_D_piece_55 : decode b_D_piece 55 = .ok (.iconst 1, 1) := by decide +kernel
theorem d_D_piece_56 : decode b_D_piece 56 = .ok (.iadd, 1) := by decide +kernel
theorem d_D_piece_57 : decode b_D_piece 57 = .ok (.iload_n 2, 1) := by decide +kernel
theorem d_D_piece_58 : decode b_D_piece 58 = .ok (.iastore, 1) := by decide +kernel
theorem d_D_piece_59 : decode b_D_piece 59 = .ok (.aload_n 0, 1) := by decide +kernel
theorem d_D_piece_60 : decode b_D_piece 60 = .ok (.getfield 13, 3) := by decide +kernel
theorem d_D_piece_63 : decode b_D_piece 63 = .ok (.iload 5, 2) := by decide +kernel
theorem d_D_piece_65 : decode b_D_piece 65 = .ok (.iconst 2, 1) := by decide +kernel
theorem d_D_piece_66 : decode b_D_piece 66 = .ok (.iadd, 1) := by decide +kernel
theorem d_D_piece_67 : decode b_D_piece 67 = .ok (.iload_n 3, 1) := by decide +kernel
theorem d_D_piece_68 : decode b_D_piece 68 = .ok (.iastore, 1) := by decide +kernel
theorem d_D_piece_69 : decode b_D_piece 69 = .ok (.aload_n 0, 1) := by decide +kernel
theorem d_D_piece_70 : decode b_D_piece 70 = .ok (.getfield 13, 3) := by decide +kernel
theorem d_D_piece_73 : decode b_D_piece 73 = .ok (.iload 5, 2) := by decide +kernel
theorem d_D_piece_75 : decode b_D_piece 75 = .ok (.iconst 3, 1) := by decide +kernel
theorem d_D_piece_76 : decode b_D_piece 76 = .ok (.iadd, 1) := by decide +kernel
theorem d_D_piece_77 : decode b_D_piece 77 = .ok (.iload 4, 2) := by decide +kernel
theorem d_D_piece_79 : decode b_D_piece 79 = .ok (.iastore, 1) := by decide +kernel
theorem d_D_piece_80 : decode b_D_piece 80 = .ok (.aload_n 0, 1) := by decide +kernel
theorem d_D_piece_81 : decode b_D_piece 81 = .ok (.getfield 20, 3) := by decide +kernel
theorem d_D_piece_84 : decode b_D_piece 84 = .ok (.aload_n 0, 1) := by decide +kernel
theorem d_D_piece_85 : decode b_D_piece 85 = .ok (.getfield 52, 3) := by decide +kernel
theorem d_D_piece_88 : decode b_D_piece 88 = .ok (.aload_n 0, 1) := by decide +kernel
theorem d_D_piece_89 : decode b_D_piece 89 = .ok (.getfield 70, 3) := by decide +kernel
theorem d_D_piece_92 : decode b_D_piece 92 = .ok (.iastore, 1) := by decide +kernel
theorem d_D_piece_93 : decode b_D_piece 93 = .ok (.aload_n 0, 1) := by decide +kernel
theorem d_D_piece_94 : decode b_D_piece 94 = .ok (.getfield 33, 3) := by decide +kernel
theorem d_D_piece_97 : decode b_D_piece 97 = .ok (.aload_n 0, 1) := by decide +kernel
theorem d_D_piece_98 : decode b_D_piece 98 = .ok (.getfield 52, 3) := by decide +kernel
theorem d_D_piece_101 : decode b_D_piece 101 = .ok (.iconst (-1), 1) := by decide +kernel
theorem d_D_piece_102 : decode b_D_piece 102 = .ok (.iastore, 1) := by decide +kernel
theorem d_D_piece_103 : decode b_D_piece 103 = .ok (.aload_n 0, 1) := by decide +kernel
theorem d_D_piece_104 : decode b_D_piece 104 = .ok (.iconst 0, 1) := by decide +kernel
theorem d_D_piece_105 : decode b_D_piece 105 = .ok (.putfield 73, 3) := by decide +kernel
theorem d_D_piece_108 : decode b_D_piece 108 = .ok (.aload_n 0, 1) := by decide +kernel
theorem d_D_piece_109 : decode b_D_piece 109 = .ok (.dup, 1) := by decide +kernel
theorem d_D_piece_110 : decode b_D_piece 110 = .ok (.getfield 52, 3) := by decide +kernel
theorem d_D_piece_113 : decode b_D_piece 113 = .ok (.iconst 1, 1) := by decide +kernel
theorem d_D_piece_114 : decode b_D_piece 114 = .ok (.iadd, 1) := by decide +kernel
theorem d_D_piece_115 : decode b_D_piece 115 = .ok (.putfield 52, 3) := by decide +kernel
theorem d_D_piece_118 : decode b_D_piece 118 = .ok (.aload_n 0, 1) := by decide +kernel
theorem d_D_piece_119 : decode b_D_piece 119 = .ok (.getfield 52, 3) := by decide +kernel
theorem d_D_piece_122 : decode b_D_piece 122 = .ok (.iconst 1, 1) := by decide +kernel
theorem d_D_piece_123 : decode b_D_piece 123 = .ok (.isub, 1) := by decide +kernel
theorem d_D_piece_124 : decode b_D_piece 124 = .ok (.ireturn, 1) := by decide +kernel
theorem d_D_order_0 : decode b_D_order 0 = .ok (.aload_n 0, 1) := by decide +kernel
theorem d_D_order_1 : decode b_D_order 1 = .ok (.iload_n 1, 1) := by decide +kernel
theorem d_D_order_2 : decode b_D_order 2 = .ok (.iload_n 2, 1) := by decide +kernel
theorem d_D_order_3 : decode b_D_order 3 = .ok (.iload_n 3, 1) := by decide +kernel
theorem d_D_order_4 : decode b_D_order 4 = .ok (.iload 4, 2) := by decide +kernel
theorem d_D_order_6 : decode b_D_order 6 = .ok (.invokestatic 62, 3) := by decide +kernel
theorem d_D_order_9 : decode b_D_order 9 = .ok (.aload_n 0, 1) := by decide +kernel
theorem d_D_order_10 : decode b_D_order 10 = .ok (.getfield 59, 3) := by decide +kernel
theorem d_D_order_13 : decode b_D_order 13 = .ok (.bipush 10, 2) := by decide +kernel
theorem d_D_order_15 : decode b_D_order 15 = .ok (.if_icmp .ge 7, 3) := by decide +kernel
theorem d_D_order_18 : decode b_D_order 18 = .ok (.iconst 1, 1) := by decide +kernel
theorem d_D_order_19 : decode b_D_order 19 = .ok (.goto 4, 3) := by decide +kernel
theorem d_D_order_22 : decode b_D_order 22 = .ok (.iconst 0, 1) := by decide +kernel
theorem d_D_order_23 : decode b_D_order 23 = .ok (.iconst 1, 1) := by decide +kernel
theorem d_D_order_24 : decode b_D_order 24 = .ok (.iconst 1, 1) := by decide +kernel
theorem d_D_order_25 : decode b_D_order 25 = .ok (.invokevirtual 66, 3) := by decide +kernel
theorem d_D_order_28 : decode b_D_order 28 = .ok (.ifCond .ne 5, 3) := by decide +kernel
theorem d_D_order_31 : decode b_D_order 31 = .ok (.iconst 0, 1) := by decide +kernel
theorem d_D_order_32 : decode b_D_order 32 = .ok (.ireturn, 1) := by decide +kernel
theorem d_D_order_33 : decode b_D_order 33 = .ok (.iconst 4, 1) := by decide +kernel
theorem d_D_order_34 : decode b_D_order 34 = .ok (.aload_n 0, 1) := by decide +kernel
theorem d_D_order_35 : decode b_D_order 35 = .ok (.getfield 59, 3) := by decide +kernel
theorem d_D_order_38 : decode b_D_order 38 = .ok (.imul, 1) := by decide +kernel
theorem d_D_order_39 : decode b_D_order 39 = .ok (.istore 5, 2) := by decide +kernel
theorem d_D_order_41 : decode b_D_order 41 = .ok (.aload_n 0, 1) := by decide +kernel
theorem d_D_order_42 : decode b_D_order 42 = .ok (.getfield 17, 3) := by decide +kernel
theorem d_D_order_45 : decode b_D_order 45 = .ok (.iload 5, 2) := by decide +kernel
theorem d_D_order_47 : decode b_D_order 47 = .ok (.iload_n 1, 1) := by decide +kernel
theorem d_D_order_48 : decode b_D_order 48 = .ok (.iastore, 1) := by decide +kernel
theorem d_D_order_49 : decode b_D_order 49 = .ok (.aload_n 0, 1) := by decide +kernel
theorem d_D_order_50 : decode b_D_order 50 = .ok (.getfield 17, 3) := by decide +kernel
theorem d_D_order_53 : decode b_D_order 53 = .ok (.iload 5, 2) := by decide +kernel
theorem d_D_order_55 : decode b_D_order 55 = .ok (.iconst 1, 1) := by decide +kernel
theorem d_D_order_56 : decode b_D_order 56 = .ok (.iadd, 1) := by decide +kernel
theorem d_D_order_57 : decode b_D_order 57 = .ok (.iload_n 2, 1) := by decide +kernel
theorem d_D_order_58 : decode b_D_order 58 = .ok (.iastore, 1) := by decide +kernel
theorem d_D_order_59 : decode b_D_order 59 = .ok (.aload_n 0, 1) := by decide +kernel
theorem d_D_order_60 : decode b_D_order 60 = .ok (.getfield 17, 3) := by decide +kernel
theorem d_D_order_63 : decode b_D_order 63 = .ok (.iload 5, 2) := by decide +kernel
theorem d_D_order_65 : decode b_D_order 65 = .ok (.iconst 2, 1) := by decide +kernel
theorem d_D_order_66 : decode b_D_order 66 = .ok (.iadd, 1) := by decide +kernel
theorem d_D_order_67 : decode b_D_order 67 = .ok (.iload_n 3, 1) := by decide +kernel
theorem d_D_order_68 : decode b_D_order 68 = .ok (.iastore, 1) := by decide +kernel
theorem d_D_order_69 : decode b_D_order 69 = .ok (.aload_n 0, 1) := by decide +kernel
theorem d_D_order_70 : decode b_D_order 70 = .ok (.getfield 17, 3) := by decide +kernel
theorem d_D_order_73 : decode b_D_order 73 = .ok (.iload 5, 2) := by decide +kernel
theorem d_D_order_75 : decode b_D_order 75 = .ok (.iconst 3, 1) := by decide +kernel
theorem d_D_order_76 : decode b_D_order 76 = .ok (.iadd, 1) := by decide +kernel
theorem d_D_order_77 : decode b_D_order 77 = .ok (.iload 4, 2) := by decide +kernel
theorem d_D_order_79 : decode b_D_order 79 = .ok (.iastore, 1) := by decide +kernel
theorem d_D_order_80 : decode b_D_order 80 = .ok (.aload_n 0, 1) := by decide +kernel
theorem d_D_order_81 : decode b_D_order 81 = .ok (.getfield 30, 3) := by decide +kernel
theorem d_D_order_84 : decode b_D_order 84 = .ok (.aload_n 0, 1) := by decide +kernel
theorem d_D_order_85 : decode b_D_order 85 = .ok (.getfield 59, 3) := by decide +kernel
theorem d_D_order_88 : decode b_D_order 88 = .ok (.iconst (-1), 1) := by decide +kernel
theorem d_D_order_89 : decode b_D_order 89 = .ok (.iastore, 1) := by decide +kernel
theorem d_D_order_90 : decode b_D_order 90 = .ok (.aload_n 0, 1) := by decide +kernel
theorem d_D_order_91 : decode b_D_order 91 = .ok (.iconst 0, 1) := by decide +kernel
theorem d_D_order_92 : decode b_D_order 92 = .ok (.putfield 73, 3) := by decide +kernel
theorem d_D_order_95 : decode b_D_order 95 = .ok (.aload_n 0, 1) := by decide +kernel
theorem d_D_order_96 : decode b_D_order 96 = .ok (.dup, 1) := by decide +kernel
theorem d_D_order_97 : decode b_D_order 97 = .ok (.getfield 59, 3) := by decide +kernel
theorem d_D_order_100 : decode b_D_order 100 = .ok (.iconst 1, 1) := by decide +kernel
theorem d_D_order_101 : decode b_D_order 101 = .ok (.iadd, 1) := by decide +kernel
theorem d_D_order_102 : decode b_D_order 102 = .ok (.putfield 59, 3) := by decide +kernel
theorem d_D_order_105 : decode b_D_order 105 = .ok (.aload_n 0, 1) := by decide +kernel
theorem d_D_order_106 : decode b_D_order 106 = .ok (.getfield 59, 3) := by decide +kernel
theorem d_D_order_109 : decode b_D_order 109 = .ok (.iconst 1, 1) := by decide +kernel
theorem d_D_order_110 : decode b_D_order 110 = .ok (.isub, 1) := by decide +kernel
theorem d_D_order_111 : decode b_D_order 111 = .ok (.ireturn, 1) := by decide +kernel
theorem d_D_worth_0 : decode b_D_worth 0 = .ok (.aload_n 0, 1) := by decide +kernel
theorem d_D_worth_1 : decode b_D_worth 1 = .ok (.iload_n 1, 1) := by decide +kernel
theorem d_D_worth_2 : decode b_D_worth 2 = .ok (.invokevirtual 77, 3) := by decide +kernel
theorem d_D_worth_5 : decode b_D_worth 5 = .ok (.ifCond .eq 15, 3) := by decide +kernel
theorem d_D_worth_8 : decode b_D_worth 8 = .ok (.aload_n 0, 1) := by decide +kernel
theorem d_D_worth_9 : decode b_D_worth 9 = .ok (.iload_n 2, 1) := by decide +kernel
theorem d_D_worth_10 : decode b_D_worth 10 = .ok (.invokevirtual 81, 3) := by decide +kernel
theorem d_D_worth_13 : decode b_D_worth 13 = .ok (.ifCond .eq 7, 3) := by decide +kernel
theorem d_D_worth_16 : decode b_D_worth 16 = .ok (.iconst 1, 1) := by decide +kernel
theorem d_D_worth_17 : decode b_D_worth 17 = .ok (.goto 4, 3) := by decide +kernel
theorem d_D_worth_20 : decode b_D_worth 20 = .ok (.iconst 0, 1) := by decide +kernel
theorem d_D_worth_21 : decode b_D_worth 21 = .ok (.istore 4, 2) := by decide +kernel
theorem d_D_worth_23 : decode b_D_worth 23 = .ok (.aload_n 0, 1) := by decide +kernel
theorem d_D_worth_24 : decode b_D_worth 24 = .ok (.iload 4, 2) := by decide +kernel
theorem d_D_worth_26 : decode b_D_worth 26 = .ok (.iload_n 3, 1) := by decide +kernel
theorem d_D_worth_27 : decode b_D_worth 27 = .ok (.iconst 0, 1) := by decide +kernel
theorem d_D_worth_28 : decode b_D_worth 28 = .ok (.ldc 84, 2) := by decide +kernel
theorem d_D_worth_30 : decode b_D_worth 30 = .ok (.invokestatic 55, 3) := by decide +kernel
theorem d_D_worth_33 : decode b_D_worth 33 = .ok (.iload 4, 2) := by decide +kernel
theorem d_D_worth_35 : decode b_D_worth 35 = .ok (.ifCond .eq 16, 3) := by decide +kernel
theorem d_D_worth_38 : decode b_D_worth 38 = .ok (.aload_n 0, 1) := by decide +kernel
theorem d_D_worth_39 : decode b_D_worth 39 = .ok (.iload_n 1, 1) := by decide +kernel
theorem d_D_worth_40 : decode b_D_worth 40 = .ok (.iload_n 2, 1) := by decide +kernel
theorem d_D_worth_41 : decode b_D_worth 41 = .ok (.invokevirtual 85, 3) := by decide +kernel
theorem d_D_worth_44 : decode b_D_worth 44 = .ok (.ifCond .eq 7, 3) := by decide +kernel
theorem d_D_worth_47 : decode b_D_worth 47 = .ok (.iconst 1, 1) := by decide +kernel
theorem d_D_worth_48 : decode b_D_worth 48 = .ok (.goto 4, 3) := by decide +kernel
theorem d_D_worth_51 : decode b_D_worth 51 = .ok (.iconst 0, 1) := by decide +kernel
theorem d_D_worth_52 : decode b_D_worth 52 = .ok (.iconst 1, 1) := by decide +kernel
theorem d_D_worth_53 : decode b_D_worth 53 = .ok (.invokevirtual 66, 3) := by decide +kernel
theorem d_D_worth_56 : decode b_D_worth 56 = .ok (.ifCond .eq 15, 3) := by decide +kernel
theorem d_D_worth_59 : decode b_D_worth 59 = .ok (.aload_n 0, 1) := by decide +kernel
theorem d_D_worth_60 : decode b_D_worth 60 = .ok (.getfield 23, 3) := by decide +kernel
theorem d_D_worth_63 : decode b_D_worth 63 = .ok (.bipush 10, 2) := by decide +kernel
theorem d_D_worth_65 : decode b_D_worth 65 = .ok (.iload_n 1, 1) := by decide +kernel
theorem d_D_worth_66 : decode b_D_worth 66 = .ok (.imul, 1) := by decide +kernel
theorem d_D_worth_67 : decode b_D_worth 67 = .ok (.iload_n 2, 1) := by decide +kernel
theorem d_D_worth_68 : decode b_D_worth 68 = .ok (.iadd, 1) := by decide +kernel
theorem d_D_worth_69 : decode b_D_worth 69 = .ok (.iload_n 3, 1) := by decide +kernel
theorem d_D_worth_70 : decode b_D_worth 70 = .ok (.iastore, 1) := by decide +kernel
theorem d_D_worth_71 : decode b_D_worth 71 = .ok (.return_, 1) := by decide +kernel
theorem d_D_rules_0 : decode b_D_rules 0 = .ok (.aload_n 0, 1) := by decide +kernel
theorem d_D_rules_1 : decode b_D_rules 1 = .ok (.iload_n 1, 1) := by decide +kernel
theorem d_D_rules_2 : decode b_D_rules 2 = .ok (.iconst 0, 1) := by decide +kernel
theorem d_D_rules_3 : decode b_D_rules 3 = .ok (.sipush 1000, 3) := by decide +kernel
theorem d_D_rules_6 : decode b_D_rules 6 = .ok (.invokestatic 55, 3) := by decide +kernel
theorem d_D_rules_9 : decode b_D_rules 9 = .ok (.ifCond .eq 29, 3) := by decide +kernel
theorem d_D_rules_12 : decode b_D_rules 12 = .ok (.iload_n 2, 1) := by decide +kernel
theorem d_D_rules_13 : decode b_D_rules 13 = .ok (.iconst 0, 1) := by decide +kernel
theorem d_D_rules_14 : decode b_D_rules 14 = .ok (.sipush 1000, 3) := by decide +kernel
theorem d_D_rules_17 : decode b_D_rules 17 = .ok (.invokestatic 55, 3) := by decide +kernel
theorem d_D_rules_20 : decode b_D_rules 20 = .ok (.ifCond .eq 18, 3) := by decide +kernel
theorem d_D_rules_23 : decode b_D_rules 23 = .ok (.iload_n 3, 1) := by decide +kernel
theorem d_D_rules_24 : decode b_D_rules 24 = .ok (.iconst 0, 1) := by decide +kernel
theorem d_D_rules_25 : decode b_D_rules 25 = .ok (.sipush 9999, 3) := by decide +kernel
theorem d_D_rules_28 : decode b_D_rules 28 = .ok (.invokestatic 55, 3) := by decide +kernel
theorem d_D_rules_31 : decode b_D_rules 31 = .ok (.ifCond .eq 7, 3) := by decide +kernel
theorem d_D_rules_34 : decode b_D_rules 34 = .ok (.iconst 1, 1) := by decide +kernel
theorem d_D_rules_35 : decode b_D_rules 35 = .ok (.goto 4, 3) := by decide +kernel
theorem d_D_rules_38 : decode b_D_rules 38 = .ok (.iconst 0, 1) := by decide +kernel
theorem d_D_rules_39 : decode b_D_rules 39 = .ok (.iconst 1, 1) := by decide +kernel
theorem d_D_rules_40 : decode b_D_rules 40 = .ok (.iconst 1, 1) := by decide +kernel
theorem d_D_rules_41 : decode b_D_rules 41 = .ok (.iconst 1, 1) := by decide +kernel
theorem d_D_rules_42 : decode b_D_rules 42 = .ok (.invokevirtual 66, 3) := by decide +kernel
theorem d_D_rules_45 : decode b_D_rules 45 = .ok (.ifCond .ne 4, 3) := by decide +kernel
theorem d_D_rules_48 : decode b_D_rules 48 = .ok (.return_, 1) := by decide +kernel
theorem d_D_rules_49 : decode b_D_rules 49 = .ok (.aload_n 0, 1) := by decide +kernel
theorem d_D_rules_50 : decode b_D_rules 50 = .ok (.iload_n 1, 1) := by decide +kernel
theorem d_D_rules_51 : decode b_D_rules 51 = .ok (.putfield 89, 3) := by decide +kernel
theorem d_D_rules_54 : decode b_D_rules 54 = .ok (.aload_n 0, 1) := by decide +kernel
theorem d_D_rules_55 : decode b_D_rules 55 = .ok (.iload_n 2, 1) := by decide +kernel
theorem d_D_rules_56 : decode b_D_rules 56 = .ok (.putfield 92, 3) := by decide +kernel
theorem d_D_rules_59 : decode b_D_rules 59 = .ok (.aload_n 0, 1) := by decide +kernel
theorem d_D_rules_60 : decode b_D_rules 60 = .ok (.iload_n 3, 1) := by decide +kernel
theorem d_D_rules_61 : decode b_D_rules 61 = .ok (.putfield 7, 3) := by decide +kernel
theorem d_D_rules_64 : decode b_D_rules 64 = .ok (.return_, 1) := by decide +kernel
theorem d_D_fits_0 : decode b_D_fits 0 = .ok (.aload_n 0, 1) := by decide +kernel
theorem d_D_fits_1 : decode b_D_fits 1 = .ok (.aload_n 0, 1) := by decide +kernel
theorem d_D_fits_2 : decode b_D_fits 2 = .ok (.iload_n 1, 1) := by decide +kernel
theorem d_D_fits_3 : decode b_D_fits 3 = .ok (.invokevirtual 77, 3) := by decide +kernel
theorem d_D_fits_6 : decode b_D_fits 6 = .ok (.ifCond .eq 15, 3) := by decide +kernel
theorem d_D_fits_9 : decode b_D_fits 9 = .ok (.aload_n 0, 1) := by decide +kernel
theorem d_D_fits_10 : decode b_D_fits 10 = .ok (.iload_n 2, 1) := by decide +kernel
theorem d_D_fits_11 : decode b_D_fits 11 = .ok (.invokevirtual 81, 3) := by decide +kernel
theorem d_D_fits_14 : decode b_D_fits 14 = .ok (.ifCond .eq 7, 3) := by decide +kernel
theorem d_D_fits_17 : decode b_D_fits 17 = .ok (.iconst 1, 1) := by decide +kernel
theorem d_D_fits_18 : decode b_D_fits 18 = .ok (.goto 4, 3) := by decide +kernel
theorem d_D_fits_21 : decode b_D_fits 21 = .ok (.iconst 0, 1) := by decide +kernel
theorem d_D_fits_22 : decode b_D_fits 22 = .ok (.iconst 1, 1) := by decide +kernel
theorem d_D_fits_23 : decode b_D_fits 23 = .ok (.iconst 1, 1) := by decide +kernel
theorem d_D_fits_24 : decode b_D_fits 24 = .ok (.iconst 1, 1) := by decide +kernel
theorem d_D_fits_25 : decode b_D_fits 25 = .ok (.invokevirtual 66, 3) := by decide +kernel
theorem d_D_fits_28 : decode b_D_fits 28 = .ok (.ifCond .eq 16, 3) := by decide +kernel
theorem d_D_fits_31 : decode b_D_fits 31 = .ok (.aload_n 0, 1) := by decide +kernel
theorem d_D_fits_32 : decode b_D_fits 32 = .ok (.iload_n 1, 1) := by decide +kernel
theorem d_D_fits_33 : decode b_D_fits 33 = .ok (.iload_n 2, 1) := by decide +kernel
theorem d_D_fits_34 : decode b_D_fits 34 = .ok (.invokevirtual 85, 3) := by decide +kernel
theorem d_D_fits_37 : decode b_D_fits 37 = .ok (.ifCond .eq 7, 3) := by decide +kernel
theorem d_D_fits_40 : decode b_D_fits 40 = .ok (.iconst 1, 1) := by decide +kernel
theorem d_D_fits_41 : decode b_D_fits 41 = .ok (.goto 4, 3) := by decide +kernel
theorem d_D_fits_44 : decode b_D_fits 44 = .ok (.iconst 0, 1) := by decide +kernel
theorem d_D_fits_45 : decode b_D_fits 45 = .ok (.ireturn, 1) := by decide +kernel
theorem d_D_net_0 : decode b_D_net 0 = .ok (.aload_n 0, 1) := by decide +kernel
theorem d_D_net_1 : decode b_D_net 1 = .ok (.iload_n 1, 1) := by decide +kernel
theorem d_D_net_2 : decode b_D_net 2 = .ok (.invokevirtual 77, 3) := by decide +kernel
theorem d_D_net_5 : decode b_D_net 5 = .ok (.ifCond .eq 15, 3) := by decide +kernel
theorem d_D_net_8 : decode b_D_net 8 = .ok (.aload_n 0, 1) := by decide +kernel
theorem d_D_net_9 : decode b_D_net 9 = .ok (.iload_n 2, 1) := by decide +kernel
theorem d_D_net_10 : decode b_D_net 10 = .ok (.invokevirtual 81, 3) := by decide +kernel
theorem d_D_net_13 : decode b_D_net 13 = .ok (.ifCond .eq 7, 3) := by decide +kernel
theorem d_D_net_16 : decode b_D_net 16 = .ok (.iconst 1, 1) := by decide +kernel
theorem d_D_net_17 : decode b_D_net 17 = .ok (.goto 4, 3) := by decide +kernel
theorem d_D_net_20 : decode b_D_net 20 = .ok (.iconst 0, 1) := by decide +kernel
theorem d_D_net_21 : decode b_D_net 21 = .ok (.istore_n 3, 1) := by decide +kernel
theorem d_D_net_22 : decode b_D_net 22 = .ok (.aload_n 0, 1) := by decide +kernel
theorem d_D_net_23 : decode b_D_net 23 = .ok (.iload_n 3, 1) := by decide +kernel
theorem d_D_net_24 : decode b_D_net 24 = .ok (.iload_n 3, 1) := by decide +kernel
theorem d_D_net_25 : decode b_D_net 25 = .ok (.ifCond .eq 16, 3) := by decide +kernel
theorem d_D_net_28 : decode b_D_net 28 = .ok (.aload_n 0, 1) := by decide +kernel
theorem d_D_net_29 : decode b_D_net 29 = .ok (.iload_n 1, 1) := by decide +kernel
theorem d_D_net_30 : decode b_D_net 30 = .ok (.iload_n 2, 1) := by decide +kernel
theorem d_D_net_31 : decode b_D_net 31 = .ok (.invokevirtual 85, 3) := by decide +kernel
theorem d_D_net_34 : decode b_D_net 34 = .ok (.ifCond .eq 7, 3) := by decide +kernel
theorem d_D_net_37 : decode b_D_net 37 = .ok (.iconst 1, 1) := by decide +kernel
theorem d_D_net_38 : decode b_D_net 38 = .ok (.goto 4, 3) := by decide +kernel
theorem d_D_net_41 : decode b_D_net 41 = .ok (.iconst 0, 1) := by decide +kernel
theorem d_D_net_42 : decode b_D_net 42 = .ok (.iconst 1, 1) := by decide +kernel
theorem d_D_net_43 : decode b_D_net 43 = .ok (.iconst 1, 1) := by decide +kernel
theorem d_D_net_44 : decode b_D_net 44 = .ok (.invokevirtual 66, 3) := by decide +kernel
theorem d_D_net_47 : decode b_D_net 47 = .ok (.ifCond .ne 5, 3) := by decide +kernel
theorem d_D_net_50 : decode b_D_net 50 = .ok (.iconst 0, 1) := by decide +kernel
theorem d_D_net_51 : decode b_D_net 51 = .ok (.ireturn, 1) := by decide +kernel
theorem d_D_net_52 : decode b_D_net 52 = .ok (.aload_n 0, 1) := by decide +kernel
theorem d_D_net_53 : decode b_D_net 53 = .ok (.iload_n 1, 1) := by decide +kernel
theorem d_D_net_54 : decode b_D_net 54 = .ok (.iload_n 2, 1) := by decide +kernel
theorem d_D_net_55 : decode b_D_net 55 = .ok (.invokevirtual 95, 3) := by decide +kernel
theorem d_D_net_58 : decode b_D_net 58 = .ok (.ireturn, 1) := by decide +kernel
theorem d_D_fill_0 : decode b_D_fill 0 = .ok (.iconst 0, 1) := by decide +kernel
theorem d_D_fill_1 : decode b_D_fill 1 = .ok (.istore_n 2, 1) := by decide +kernel
theorem d_D_fill_2 : decode b_D_fill 2 = .ok (.iload_n 2, 1) := by decide +kernel
theorem d_D_fill_3 : decode b_D_fill 3 = .ok (.sipush 1024, 3) := by decide +kernel
theorem d_D_fill_6 : decode b_D_fill 6 = .ok (.if_icmp .ge 25, 3) := by decide +kernel
theorem d_D_fill_9 : decode b_D_fill 9 = .ok (.aload_n 0, 1) := by decide +kernel
theorem d_D_fill_10 : decode b_D_fill 10 = .ok (.getfield 45, 3) := by decide +kernel
theorem d_D_fill_13 : decode b_D_fill 13 = .ok (.sipush 1024, 3) := by decide +kernel
theorem d_D_fill_16 : decode b_D_fill 16 = .ok (.aload_n 0, 1) := by decide +kernel
theorem d_D_fill_17 : decode b_D_fill 17 = .ok (.getfield 52, 3) := by decide +kernel
theorem d_D_fill_20 : decode b_D_fill 20 = .ok (.imul, 1) := by decide +kernel
theorem d_D_fill_21 : decode b_D_fill 21 = .ok (.iload_n 2, 1) := by decide +kernel
theorem d_D_fill_22 : decode b_D_fill 22 = .ok (.iadd, 1) := by decide +kernel
theorem d_D_fill_23 : decode b_D_fill 23 = .ok (.lconst 0, 1) := by decide +kernel
theorem d_D_fill_24 : decode b_D_fill 24 = .ok (.lastore, 1) := by decide +kernel
theorem d_D_fill_25 : decode b_D_fill 25 = .ok (.iinc 2 1, 3) := by decide +kernel
theorem d_D_fill_28 : decode b_D_fill 28 = .ok (.goto (-26), 3) := by decide +kernel
theorem d_D_fill_31 : decode b_D_fill 31 = .ok (.aload_n 0, 1) := by decide +kernel
theorem d_D_fill_32 : decode b_D_fill 32 = .ok (.getfield 52, 3) := by decide +kernel
theorem d_D_fill_35 : decode b_D_fill 35 = .ok (.iconst 1, 1) := by decide +kernel
theorem d_D_fill_36 : decode b_D_fill 36 = .ok (.isub, 1) := by decide +kernel
theorem d_D_fill_37 : decode b_D_fill 37 = .ok (.istore_n 2, 1) := by decide +kernel
theorem d_D_fill_38 : decode b_D_fill 38 = .ok (.iload_n 2, 1) := by decide +kernel
theorem d_D_fill_39 : decode b_D_fill 39 = .ok (.ifCond .lt 186, 3) := by decide +kernel
theorem d_D_fill_42 : decode b_D_fill 42 = .ok (.iconst 0, 1) := by decide +kernel
theorem d_D_fill_43 : decode b_D_fill 43 = .ok (.istore_n 3, 1) := by decide +kernel
theorem d_D_fill_44 : decode b_D_fill 44 = .ok (.iload_n 3, 1) := by decide +kernel
theorem d_D_fill_45 : decode b_D_fill 45 = .ok (.sipush 1024, 3) := by decide +kernel
theorem d_D_fill_48 : decode b_D_fill 48 = .ok (.if_icmp .ge 35, 3) := by decide +kernel
theorem d_D_fill_51 : decode b_D_fill 51 = .ok (.aload_n 0, 1) := by decide +kernel
theorem d_D_fill_52 : decode b_D_fill 52 = .ok (.getfield 45, 3) := by decide +kernel
theorem d_D_fill_55 : decode b_D_fill 55 = .ok (.sipush 1024, 3) := by decide +kernel
theorem d_D_fill_58 : decode b_D_fill 58 = .ok (.iload_n 2, 1) := by decide +kernel
theorem d_D_fill_59 : decode b_D_fill 59 = .ok (.imul, 1) := by decide +kernel
theorem d_D_fill_60 : decode b_D_fill 60 = .ok (.iload_n 3, 1) := by decide +kernel
theorem d_D_fill_61 : decode b_D_fill 61 = .ok (.iadd, 1) := by decide +kernel
theorem d_D_fill_62 : decode b_D_fill 62 = .ok (.aload_n 0, 1) := by decide +kernel
theorem d_D_fill_63 : decode b_D_fill 63 = .ok (.getfield 45, 3) := by decide +kernel
theorem d_D_fill_66 : decode b_D_fill 66 = .ok (.sipush 1024, 3) := by decide +kernel
theorem d_D_fill_69 : decode b_D_fill 69 = .ok (.iload_n 2, 1) := by decide +kernel
theorem d_D_fill_70 : decode b_D_fill 70 = .ok (.iconst 1, 1) := by decide +kernel
theorem d_D_fill_71 : decode b_D_fill 71 = .ok (.iadd, 1) := by decide +kernel
theorem d_D_fill_72 : decode b_D_fill 72 = .ok (.imul, 1) := by decide +kernel
theorem d_D_fill_73 : decode b_D_fill 73 = .ok (.iload_n 3, 1) := by decide +kernel
theorem d_D_fill_74 : decode b_D_fill 74 = .ok (.iadd, 1) := by decide +kernel
theorem d_D_fill_75 : decode b_D_fill 75 = .ok (.laload, 1) := by decide +kernel
theorem d_D_fill_76 : decode b_D_fill 76 = .ok (.lastore, 1) := by decide +kernel
theorem d_D_fill_77 : decode b_D_fill 77 = .ok (.iinc 3 1, 3) := by decide +kernel
theorem d_D_fill_80 : decode b_D_fill 80 = .ok (.goto (-36), 3) := by decide +kernel
theorem d_D_fill_83 : decode b_D_fill 83 = .ok (.iconst 0, 1) := by decide +kernel
theorem d_D_fill_84 : decode b_D_fill 84 = .ok (.istore_n 3, 1) := by decide +kernel
theorem d_D_fill_85 : decode b_D_fill 85 = .ok (.iload_n 3, 1) := by decide +kernel
theorem d_D_fill_86 : decode b_D_fill 86 = .ok (.aload_n 0, 1) := by decide +kernel
theorem d_D_fill_87 : decode b_D_fill 87 = .ok (.getfield 59, 3) := by decide +kernel
theorem d_D_fill_90 : decode b_D_fill 90 = .ok (.if_icmp .ge 129, 3) := by decide +kernel
theorem d_D_fill_93 : decode b_D_fill 93 = .ok (.iload_n 3, 1) := by decide +kernel
theorem d_D_fill_94 : decode b_D_fill 94 = .ok (.iload_n 1, 1) := by decide +kernel
theorem d_D_fill_95 : decode b_D_fill 95 = .ok (.if_icmp .eq 118, 3) := by decide +kernel
theorem d_D_fill_98 : decode b_D_fill 98 = .ok (.aload_n 0, 1) := by decide +kernel
theorem d_D_fill_99 : decode b_D_fill 99 = .ok (.iload_n 2, 1) := by decide +kernel
theorem d_D_fill_100 : decode b_D_fill 100 = .ok (.iload_n 3, 1) := by decide +kernel
theorem d_D_fill_101 : decode b_D_fill 101 = .ok (.invokevirtual 106, 3) := by decide +kernel
theorem d_D_fill_104 : decode b_D_fill 104 = .ok (.ifCond .ne 6, 3) := by decide +kernel
theorem d_D_fill_107 : decode b_D_fill 107 = .ok (.goto 106, 3) := by decide +kernel
theorem d_D_fill_110 : decode b_D_fill 110 = .ok (.ldc2_w 109, 3) := by decide +kernel
theorem d_D_fill_113 : decode b_D_fill 113 = .ok (.aload_n 0, 1) := by decide +kernel
theorem d_D_fill_114 : decode b_D_fill 114 = .ok (.iload_n 2, 1) := by decide +kernel
theorem d_D_fill_115 : decode b_D_fill 115 = .ok (.iload_n 3, 1) := by decide +kernel
theorem d_D_fill_116 : decode b_D_fill 116 = .ok (.invokevirtual 95, 3) := by decide +kernel
theorem d_D_fill_119 : decode b_D_fill 119 = .ok (.i2l, 1) := by decide +kernel
theorem d_D_fill_120 : decode b_D_fill 120 = .ok (.lmul, 1) := by decide +kernel
theorem d_D_fill_121 : decode b_D_fill 121 = .ok (.lconst 1, 1) := by decide +kernel
theorem d_D_fill_122 : decode b_D_fill 122 = .ok (.ladd, 1) := by decide +kernel
theorem d_D_fill_123 : decode b_D_fill 123 = .ok (.lstore 4, 2) := by decide +kernel
theorem d_D_fill_125 : decode b_D_fill 125 = .ok (.iconst 0, 1) := by decide +kernel
theorem d_D_fill_126 : decode b_D_fill 126 = .ok (.istore 6, 2) := by decide +kernel
theorem d_D_fill_128 : decode b_D_fill 128 = .ok (.iload 6, 2) := by decide +kernel
theorem d_D_fill_130 : decode b_D_fill 130 = .ok (.sipush 1024, 3) := by decide +kernel
theorem d_D_fill_133 : decode b_D_fill 133 = .ok (.if_icmp .ge 80, 3) := by decide +kernel
theorem d_D_fill_136 : decode b_D_fill 136 = .ok (.iload 6, 2) := by decide +kernel
theorem d_D_fill_138 : decode b_D_fill 138 = .ok (.iload_n 3, 1) := by decide +kernel
theorem d_D_fill_139 : decode b_D_fill 139 = .ok (.ishr, 1) := by decide +kernel
theorem d_D_fill_140 : decode b_D_fill 140 = .ok (.iconst 1, 1) := by decide +kernel
theorem d_D_fill_141 : decode b_D_fill 141 = .ok (.iand, 1) := by decide +kernel
theorem d_D_fill_142 : decode b_D_fill 142 = .ok (.iconst 1, 1) := by decide +kernel
theorem d_D_fill_143 : decode b_D_fill 143 = .ok (.if_icmp .ne 6, 3) := by decide +kernel
theorem d_D_fill_146 : decode b_D_fill 146 = .ok (.goto 61, 3) := by decide +kernel
theorem d_D_fill_149 : decode b_D_fill 149 = .ok (.aload_n 0, 1) := by decide +kernel
theorem d_D_fill_150 : decode b_D_fill 150 = .ok (.getfield 45, 3) := by decide +kernel
theorem d_D_fill_153 : decode b_D_fill 153 = .ok (.sipush 1024, 3) := by decide +kernel
theorem d_D_fill_156 : decode b_D_fill 156 = .ok (.iload_n 2, 1) := by decide +kernel
theorem d_D_fill_157 : decode b_D_fill 157 = .ok (.iconst 1, 1) := by decide +kernel
theorem d_D_fill_158 : decode b_D_fill 158 = .ok (.iadd, 1) := by decide +kernel
theorem d_D_fill_159 : decode b_D_fill 159 = .ok (.imul, 1) := by decide +kernel
theorem d_D_fill_160 : decode b_D_fill 160 = .ok (.iload 6, 2) := by decide +kernel
theorem d_D_fill_162 : decode b_D_fill 162 = .ok (.iconst 1, 1) := by decide +kernel
theorem d_D_fill_163 : decode b_D_fill 163 = .ok (.iload_n 3, 1) := by decide +kernel
theorem d_D_fill_164 : decode b_D_fill 164 = .ok (.ishl, 1) := by decide +kernel
theorem d_D_fill_165 : decode b_D_fill 165 = .ok (.ior, 1) := by decide +kernel
theorem d_D_fill_166 : decode b_D_fill 166 = .ok (.iadd, 1) := by decide +kernel
theorem d_D_fill_167 : decode b_D_fill 167 = .ok (.laload, 1) := by decide +kernel
theorem d_D_fill_168 : decode b_D_fill 168 = .ok (.lload 4, 2) := by decide +kernel
theorem d_D_fill_170 : decode b_D_fill 170 = .ok (.ladd, 1) := by decide +kernel
theorem d_D_fill_171 : decode b_D_fill 171 = .ok (.lstore 7, 2) := by decide +kernel
theorem d_D_fill_173 : decode b_D_fill 173 = .ok (.lload 7, 2) := by decide +kernel
theorem d_D_fill_175 : decode b_D_fill 175 = .ok (.aload_n 0, 1) := by decide +kernel
theorem d_D_fill_176 : decode b_D_fill 176 = .ok (.getfield 45, 3) := by decide +kernel
theorem d_D_fill_179 : decode b_D_fill 179 = .ok (.sipush 1024, 3) := by decide +kernel
theorem d_D_fill_182 : decode b_D_fill 182 = .ok (.iload_n 2, 1) := by decide +kernel
theorem d_D_fill_183 : decode b_D_fill 183 = .ok (.imul, 1) := by decide +kernel
theorem d_D_fill_184 : decode b_D_fill 184 = .ok (.iload 6, 2) := by decide +kernel
theorem d_D_fill_186 : decode b_D_fill 186 = .ok (.iadd, 1) := by decide +kernel
theorem d_D_fill_187 : decode b_D_fill 187 = .ok (.laload, 1) := by decide +kernel
theorem d_D_fill_188 : decode b_D_fill 188 = .ok (.lcmp, 1) := by decide +kernel
theorem d_D_fill_189 : decode b_D_fill 189 = .ok (.ifCond .le 18, 3) := by decide +kernel
theorem d_D_fill_192 : decode b_D_fill 192 = .ok (.aload_n 0, 1) := by decide +kernel
theorem d_D_fill_193 : decode b_D_fill 193 = .ok (.getfield 45, 3) := by decide +kernel
theorem d_D_fill_196 : decode b_D_fill 196 = .ok (.sipush 1024, 3) := by decide +kernel
theorem d_D_fill_199 : decode b_D_fill 199 = .ok (.iload_n 2, 1) := by decide +kernel
theorem d_D_fill_200 : decode b_D_fill 200 = .ok (.imul, 1) := by decide +kernel
theorem d_D_fill_201 : decode b_D_fill 201 = .ok (.iload 6, 2) := by decide +kernel
theorem d_D_fill_203 : decode b_D_fill 203 = .ok (.iadd, 1) := by decide +kernel
theorem d_D_fill_204 : decode b_D_fill 204 = .ok (.lload 7, 2) := by decide +kernel
theorem d_D_fill_206 : decode b_D_fill 206 = .ok (.lastore, 1) := by decide +kernel
theorem d_D_fill_207 : decode b_D_fill 207 = .ok (.iinc 6 1, 3) := by decide +kernel
theorem d_D_fill_210 : decode b_D_fill 210 = .ok (.goto (-82), 3) := by decide +kernel
theorem d_D_fill_213 : decode b_D_fill 213 = .ok (.iinc 3 1, 3) := by decide +kernel
theorem d_D_fill_216 : decode b_D_fill 216 = .ok (.goto (-131), 3) := by decide +kernel
theorem d_D_fill_219 : decode b_D_fill 219 = .ok (.iinc 2 (-1), 3) := by decide +kernel
theorem d_D_fill_222 : decode b_D_fill 222 = .ok (.goto (-184), 3) := by decide +kernel
theorem d_D_fill_225 : decode b_D_fill 225 = .ok (.return_, 1) := by decide +kernel
def w_D_piece : List Cond := .code y_D_piece b_D_piece 6 (some .int) :: W0
theorem q_D_piece : y_D_piece.cls = R_D ∧ y_D_piece.cls ≠ "java/lang/invoke/MethodHandle" ∧ y_D_piece.cls ≠ "java/lang/invoke/VarHandle" ∧ (parseMethodDescriptor y_D_piece.desc).map (fun d => d.parameters.length) = some 4 := by decide +kernel
def m_D_piece (d_today : Int32) (d_pieces : Int32) (d_piece : Nat → Int32) (d_came : Nat → Int32) (d_reservedFor : Nat → Int32) (d_ran : Int32) (x1 : Int32) (x2 : Int32) (x3 : Int32) (x4 : Int32) : Option (Int32 × Int32 × Int32 × (Nat → Int32) × (Nat → Int32) × (Nat → Int32) × Int32) :=
  ((m_D_areSizes x1 x2 x3 x4).bind fun r1 =>
  (if 10 ≤ d_pieces then
    ((m_D_goes r1 0 1 1).bind fun (r2, u3) =>
      (if r2 = 0 then
        some (0, u3, d_pieces, d_piece, d_came, d_reservedFor, d_ran)
       else
        (if (4 * d_pieces) < 0 ∨ 40 ≤ (4 * d_pieces).toNatClampNeg then none else
        (if ((4 * d_pieces) + 1) < 0 ∨ 40 ≤ ((4 * d_pieces) + 1).toNatClampNeg then none else
        (if ((4 * d_pieces) + 2) < 0 ∨ 40 ≤ ((4 * d_pieces) + 2).toNatClampNeg then none else
        (if ((4 * d_pieces) + 3) < 0 ∨ 40 ≤ ((4 * d_pieces) + 3).toNatClampNeg then none else
        (if d_pieces < 0 ∨ 10 ≤ d_pieces.toNatClampNeg then none else
        (if d_pieces < 0 ∨ 10 ≤ d_pieces.toNatClampNeg then none else
        some (((d_pieces + 1) - 1), u3, (d_pieces + 1), (upd (upd (upd (upd d_piece (4 * d_pieces).toNatClampNeg x1) ((4 * d_pieces) + 1).toNatClampNeg x2) ((4 * d_pieces) + 2).toNatClampNeg x3) ((4 * d_pieces) + 3).toNatClampNeg x4), (upd d_came d_pieces.toNatClampNeg d_today), (upd d_reservedFor d_pieces.toNatClampNeg (-1)), 0)))))))))
   else
    ((m_D_goes r1 1 1 1).bind fun (r5, u6) =>
      (if r5 = 0 then
        some (0, u6, d_pieces, d_piece, d_came, d_reservedFor, d_ran)
       else
        (if (4 * d_pieces) < 0 ∨ 40 ≤ (4 * d_pieces).toNatClampNeg then none else
        (if ((4 * d_pieces) + 1) < 0 ∨ 40 ≤ ((4 * d_pieces) + 1).toNatClampNeg then none else
        (if ((4 * d_pieces) + 2) < 0 ∨ 40 ≤ ((4 * d_pieces) + 2).toNatClampNeg then none else
        (if ((4 * d_pieces) + 3) < 0 ∨ 40 ≤ ((4 * d_pieces) + 3).toNatClampNeg then none else
        (if d_pieces < 0 ∨ 10 ≤ d_pieces.toNatClampNeg then none else
        (if d_pieces < 0 ∨ 10 ≤ d_pieces.toNatClampNeg then none else
        some (((d_pieces + 1) - 1), u6, (d_pieces + 1), (upd (upd (upd (upd d_piece (4 * d_pieces).toNatClampNeg x1) ((4 * d_pieces) + 1).toNatClampNeg x2) ((4 * d_pieces) + 2).toNatClampNeg x3) ((4 * d_pieces) + 3).toNatClampNeg x4), (upd d_came d_pieces.toNatClampNeg d_today), (upd d_reservedFor d_pieces.toNatClampNeg (-1)), 0)))))))))))
set_option maxHeartbeats 4000000 in
set_option maxRecDepth 100000 in
theorem c_D_piece (l : Launch) (dC : Nat → ClassId) (dI : Nat → Nat → Nat) (cI cZ cJ : ClassId) (dq dq8 dq9 dq10 dq11 dq12 dq13 dq14 dq15 dq18 dq19 dq20 : Nat) (sz : Nat) (d_thrown : Int32) (d_today : Int32) (d_cut : Int32) (d_aging : Int32) (d_saleFrom : Int32) (d_pieces : Int32) (d_orders : Int32) (d_piece : Nat → Int32) (d_order : Nat → Int32) (d_came : Nat → Int32) (d_worth : Nat → Int32) (d_used : Nat → Int32) (d_usedBy : Nat → Int32) (d_reservedFor : Nat → Int32) (d_reservedTo : Nat → Int32) (d_ran : Int32) (d_sum : Int32) (d_pieceDual : Nat → Int32) (d_orderDual : Nat → Int32) (d_table : Nat → Int64) (x1 : Int32) (x2 : Int32) (x3 : Int32) (x4 : Int32) (N : Nat) (res : Int32 × Int32 × Int32 × (Nat → Int32) × (Nat → Int32) × (Nat → Int32) × Int32) (hm : m_D_piece d_today d_pieces d_piece d_came d_reservedFor d_ran x1 x2 x3 x4 = some res) : Met l y_D_piece w_D_piece ({ frames := 2, cells := 0, slots := 0, locals := 45 } : Room) (va_Pc [.ref dq, .int x1, .int x2, .int x3, .int x4] (fun U => U.heap.size = sz ∧ va_P (dC, dI) classes [(dq, .inr (5, [.int d_thrown, .int d_today, .int d_cut, .int d_aging, .int d_saleFrom, .int d_pieces, .int d_orders, .ref dq8, .ref dq9, .ref dq10, .ref dq11, .ref dq12, .ref dq13, .ref dq14, .ref dq15, .int d_ran, .int d_sum, .ref dq18, .ref dq19, .ref dq20])), (dq8, .inl (cI, 40, .inl d_piece)), (dq9, .inl (cI, 40, .inl d_order)), (dq10, .inl (cI, 10, .inl d_came)), (dq11, .inl (cI, 100, .inl d_worth)), (dq12, .inl (cZ, 10, .inl d_used)), (dq13, .inl (cI, 10, .inl d_usedBy)), (dq14, .inl (cI, 10, .inl d_reservedFor)), (dq15, .inl (cI, 10, .inl d_reservedTo)), (dq18, .inl (cI, 10, .inl d_pieceDual)), (dq19, .inl (cI, 10, .inl d_orderDual)), (dq20, .inl (cJ, 11264, .inr (.inl d_table)))] U.heap ∧ va_K (dC, dI) classes [(cI, .int), (cZ, .boolean), (cJ, .long)] U ∧ va_D (fun _ => True) [(dq, .inr (5, [.int d_thrown, .int d_today, .int d_cut, .int d_aging, .int d_saleFrom, .int d_pieces, .int d_orders, .ref dq8, .ref dq9, .ref dq10, .ref dq11, .ref dq12, .ref dq13, .ref dq14, .ref dq15, .int d_ran, .int d_sum, .ref dq18, .ref dq19, .ref dq20])), (dq8, .inl (cI, 40, .inl d_piece)), (dq9, .inl (cI, 40, .inl d_order)), (dq10, .inl (cI, 10, .inl d_came)), (dq11, .inl (cI, 100, .inl d_worth)), (dq12, .inl (cZ, 10, .inl d_used)), (dq13, .inl (cI, 10, .inl d_usedBy)), (dq14, .inl (cI, 10, .inl d_reservedFor)), (dq15, .inl (cI, 10, .inl d_reservedTo)), (dq18, .inl (cI, 10, .inl d_pieceDual)), (dq19, .inl (cI, 10, .inl d_orderDual)), (dq20, .inl (cJ, 11264, .inr (.inl d_table)))] ∧ nw U)) (va_Qi (fun (x : Int32) (_ : Unit) => res.1 = x) (fun _ t => va_P (dC, dI) classes [(dq, .inr (5, [.int res.2.1, .int d_today, .int d_cut, .int d_aging, .int d_saleFrom, .int res.2.2.1, .int d_orders, .ref dq8, .ref dq9, .ref dq10, .ref dq11, .ref dq12, .ref dq13, .ref dq14, .ref dq15, .int res.2.2.2.2.2.2, .int d_sum, .ref dq18, .ref dq19, .ref dq20])), (dq8, .inl (cI, 40, .inl res.2.2.2.1)), (dq9, .inl (cI, 40, .inl d_order)), (dq10, .inl (cI, 10, .inl res.2.2.2.2.1)), (dq11, .inl (cI, 100, .inl d_worth)), (dq12, .inl (cZ, 10, .inl d_used)), (dq13, .inl (cI, 10, .inl d_usedBy)), (dq14, .inl (cI, 10, .inl res.2.2.2.2.2.1)), (dq15, .inl (cI, 10, .inl d_reservedTo)), (dq18, .inl (cI, 10, .inl d_pieceDual)), (dq19, .inl (cI, 10, .inl d_orderDual)), (dq20, .inl (cJ, 11264, .inr (.inl d_table)))] t.heap ∧ va_K (dC, dI) classes [(cI, .int), (cZ, .boolean), (cJ, .long)] t ∧ va_D (va_A [(dq, .inr (5, [.int d_thrown, .int d_today, .int d_cut, .int d_aging, .int d_saleFrom, .int d_pieces, .int d_orders, .ref dq8, .ref dq9, .ref dq10, .ref dq11, .ref dq12, .ref dq13, .ref dq14, .ref dq15, .int d_ran, .int d_sum, .ref dq18, .ref dq19, .ref dq20])), (dq8, .inl (cI, 40, .inl d_piece)), (dq9, .inl (cI, 40, .inl d_order)), (dq10, .inl (cI, 10, .inl d_came)), (dq11, .inl (cI, 100, .inl d_worth)), (dq12, .inl (cZ, 10, .inl d_used)), (dq13, .inl (cI, 10, .inl d_usedBy)), (dq14, .inl (cI, 10, .inl d_reservedFor)), (dq15, .inl (cI, 10, .inl d_reservedTo)), (dq18, .inl (cI, 10, .inl d_pieceDual)), (dq19, .inl (cI, 10, .inl d_orderDual)), (dq20, .inl (cJ, 11264, .inr (.inl d_table)))] sz) [(dq, .inr (5, [.int res.2.1, .int d_today, .int d_cut, .int d_aging, .int d_saleFrom, .int res.2.2.1, .int d_orders, .ref dq8, .ref dq9, .ref dq10, .ref dq11, .ref dq12, .ref dq13, .ref dq14, .ref dq15, .int res.2.2.2.2.2.2, .int d_sum, .ref dq18, .ref dq19, .ref dq20])), (dq8, .inl (cI, 40, .inl res.2.2.2.1)), (dq9, .inl (cI, 40, .inl d_order)), (dq10, .inl (cI, 10, .inl res.2.2.2.2.1)), (dq11, .inl (cI, 100, .inl d_worth)), (dq12, .inl (cZ, 10, .inl d_used)), (dq13, .inl (cI, 10, .inl d_usedBy)), (dq14, .inl (cI, 10, .inl res.2.2.2.2.2.1)), (dq15, .inl (cI, 10, .inl d_reservedTo)), (dq18, .inl (cI, 10, .inl d_pieceDual)), (dq19, .inl (cI, 10, .inl d_orderDual)), (dq20, .inl (cJ, 11264, .inr (.inl d_table)))]) (va_A [(dq, .inr (5, [.int d_thrown, .int d_today, .int d_cut, .int d_aging, .int d_saleFrom, .int d_pieces, .int d_orders, .ref dq8, .ref dq9, .ref dq10, .ref dq11, .ref dq12, .ref dq13, .ref dq14, .ref dq15, .int d_ran, .int d_sum, .ref dq18, .ref dq19, .ref dq20])), (dq8, .inl (cI, 40, .inl d_piece)), (dq9, .inl (cI, 40, .inl d_order)), (dq10, .inl (cI, 10, .inl d_came)), (dq11, .inl (cI, 100, .inl d_worth)), (dq12, .inl (cZ, 10, .inl d_used)), (dq13, .inl (cI, 10, .inl d_usedBy)), (dq14, .inl (cI, 10, .inl d_reservedFor)), (dq15, .inl (cI, 10, .inl d_reservedTo)), (dq18, .inl (cI, 10, .inl d_pieceDual)), (dq19, .inl (cI, 10, .inl d_orderDual)), (dq20, .inl (cJ, 11264, .inr (.inl d_table)))] sz)) 0 0 (va_A [(dq, .inr (5, [.int d_thrown, .int d_today, .int d_cut, .int d_aging, .int d_saleFrom, .int d_pieces, .int d_orders, .ref dq8, .ref dq9, .ref dq10, .ref dq11, .ref dq12, .ref dq13, .ref dq14, .ref dq15, .int d_ran, .int d_sum, .ref dq18, .ref dq19, .ref dq20])), (dq8, .inl (cI, 40, .inl d_piece)), (dq9, .inl (cI, 40, .inl d_order)), (dq10, .inl (cI, 10, .inl d_came)), (dq11, .inl (cI, 100, .inl d_worth)), (dq12, .inl (cZ, 10, .inl d_used)), (dq13, .inl (cI, 10, .inl d_usedBy)), (dq14, .inl (cI, 10, .inl d_reservedFor)), (dq15, .inl (cI, 10, .inl d_reservedTo)), (dq18, .inl (cI, 10, .inl d_pieceDual)), (dq19, .inl (cI, 10, .inl d_orderDual)), (dq20, .inl (cJ, 11264, .inr (.inl d_table)))] sz) := by
  unfold m_D_piece at hm
  refine Met.ofW (cc := b_D_piece) (maxL := 6) (ret := (some .int)) (by decide) rfl ?_
  intro p e s m args below meth c s₁ B hml hv
  obtain ⟨rfl, hsz, hP, hK, hD0, hN⟩ := hv
  have hx := B.exec
  have hb := B.bytes
  have hr := B.returns
  have hts := atoms_spec (ws := w_D_piece) B.pre
  have hown : s.vm.findClass R_D = some m.cls := findClass_of_methodNamed B.named
  have hlocks := B.notSynchronized
  subst hsz
  have hD := hD0.self (sz := s.heap.size)
  generalize hAe : va_A [(dq, .inr (5, [.int d_thrown, .int d_today, .int d_cut, .int d_aging, .int d_saleFrom, .int d_pieces, .int d_orders, .ref dq8, .ref dq9, .ref dq10, .ref dq11, .ref dq12, .ref dq13, .ref dq14, .ref dq15, .int d_ran, .int d_sum, .ref dq18, .ref dq19, .ref dq20])), (dq8, .inl (cI, 40, .inl d_piece)), (dq9, .inl (cI, 40, .inl d_order)), (dq10, .inl (cI, 10, .inl d_came)), (dq11, .inl (cI, 100, .inl d_worth)), (dq12, .inl (cZ, 10, .inl d_used)), (dq13, .inl (cI, 10, .inl d_usedBy)), (dq14, .inl (cI, 10, .inl d_reservedFor)), (dq15, .inl (cI, 10, .inl d_reservedTo)), (dq18, .inl (cI, 10, .inl d_pieceDual)), (dq19, .inl (cI, 10, .inl d_orderDual)), (dq20, .inl (cJ, 11264, .inr (.inl d_table)))] s.heap.size = A at hD ⊢
  have hA : ∀ q : Nat, s.heap.size ≤ q → A q := fun q h => by rw [← hAe]; exact Or.inr h
  have hS : va_S A s.heap s.heap [] := va_S.rf
  have hk0 := hts (.fieldLink R_D 52 "SurplusMatchModel" "pieces" "I") (List.mem_cons_of_mem _ (w0 598 rfl))
  have hk1 : ∀ w ∈ w_D, w ∈ w_D_piece := fun w h => List.mem_cons_of_mem _ (i_D w h)
  have hk2 := hts (.fieldLink R_D 13 "SurplusMatchModel" "piece" "[I") (List.mem_cons_of_mem _ (w0 600 rfl))
  have hk3 := hts (.fieldLink R_D 20 "SurplusMatchModel" "came" "[I") (List.mem_cons_of_mem _ (w0 602 rfl))
  have hk4 := hts (.fieldLink R_D 70 "SurplusMatchModel" "today" "I") (List.mem_cons_of_mem _ (w0 594 rfl))
  have hk5 := hts (.fieldLink R_D 33 "SurplusMatchModel" "reservedFor" "[I") (List.mem_cons_of_mem _ (w0 606 rfl))
  have hk6 := hts (.fieldLink R_D 73 "SurplusMatchModel" "ran" "Z") (List.mem_cons_of_mem _ (w0 608 rfl))
  have hl := lv_entry ([.ref dq, .int x1, .int x2, .int x3, .int x4]) (n := 6) (Nat.le_of_ble_eq_true rfl)
  rw [lg_entry_eq]
  generalize (lg_sl ([.ref dq, .int x1, .int x2, .int x3, .int x4]) ++ List.replicate (6 - (lg_sl ([.ref dq, .int x1, .int x2, .int x3, .int x4])).length) Slot.unset).toArray = ls at hl ⊢
  have hl : lv_has ls 6 [(0, .ref dq), (1, .int x1), (2, .int x2), (3, .int x3), (4, .int x4)] := hl
  refine lv_aload_n hx hb d_D_piece_0 rfl (lv_at hl 0 rfl) ?_
  refine lv_iload_n hx hb d_D_piece_1 rfl (lv_at hl 1 rfl) ?_
  refine lv_iload_n hx hb d_D_piece_2 rfl (lv_at hl 2 rfl) ?_
  refine lv_iload_n hx hb d_D_piece_3 rfl (lv_at hl 3 rfl) ?_
  refine lv_iload hx hb d_D_piece_4 (lv_at hl 4 rfl) ?_
  obtain ⟨r1, hc, hm⟩ := bd hm
  try dsimp only at hm
  refine vp_callSi (W.runS (As := [.int x1, .int x2, .int x3, .int x4]) (rest := [.ref dq]) ⟨hx, hb, hml, hown, hts⟩ (c_D_areSizes l dC dI cI x1 x2 x3 x4 N r1 hc) (cwS 4 hts (gS (w0 664 rfl) (w0 665 rfl) (w0 33 rfl) (w0 666 rfl)) rfl rfl rfl q_D_areSizes ⟨Nat.le_of_ble_eq_true rfl, Nat.le_of_ble_eq_true rfl⟩) ro_pre0 rfl rfl hl.1 rfl (lv_room (Nat.le_of_ble_eq_true rfl)) d_D_piece_6 ⟨Nat.le_of_ble_eq_true rfl, Nat.le_of_ble_eq_true rfl⟩) (fun r9 hr9 => ?_)
  subst hr9
  refine lv_aload_n hx hb d_D_piece_9 rfl (lv_at hl 0 rfl) ?_
  refine va_get (D := (dC, dI)) (ci := 5) (v := .int d_pieces) (C := R_D) (T := F_D) (N := 20) hx hb hts hk1 hown hK hP 0 rfl rfl 5 (by decide) hk0 (fun _ h9 => h9) rfl d_D_piece_10 ?_
  refine lv_bipush (v := 10) hx hb d_D_piece_13 (by decide) ?_
  refine lv_icmp_ge (tgt := 22) hx hb d_D_piece_15 (by decide) (fun c9 => ?_) (fun c9 => ?_)
  · replace hm := if_t c9 hm
    refine lv_iconst (v := 0) hx hb d_D_piece_22 (by decide) ?_
    refine lv_iconst (v := 1) hx hb d_D_piece_23 (by decide) ?_
    refine lv_iconst (v := 1) hx hb d_D_piece_24 (by decide) ?_
    obtain ⟨⟨r2, u3⟩, hc, hm⟩ := bd hm
    try dsimp only at hm
    have hPc := hP.sub (ws' := [(dq, .inr (5, [.int d_thrown, .int d_today, .int d_cut, .int d_aging, .int d_saleFrom, .int d_pieces, .int d_orders, .ref dq8, .ref dq9, .ref dq10, .ref dq11, .ref dq12, .ref dq13, .ref dq14, .ref dq15, .int d_ran, .int d_sum, .ref dq18, .ref dq19, .ref dq20])), (dq8, .inl (cI, 40, .inl d_piece)), (dq9, .inl (cI, 40, .inl d_order)), (dq10, .inl (cI, 10, .inl d_came)), (dq11, .inl (cI, 100, .inl d_worth)), (dq12, .inl (cZ, 10, .inl d_used)), (dq13, .inl (cI, 10, .inl d_usedBy)), (dq14, .inl (cI, 10, .inl d_reservedFor)), (dq15, .inl (cI, 10, .inl d_reservedTo)), (dq18, .inl (cI, 10, .inl d_pieceDual)), (dq19, .inl (cI, 10, .inl d_orderDual)), (dq20, .inl (cJ, 11264, .inr (.inl d_table)))]) [0, 1, 2, 3, 4, 5, 6, 7, 8, 9, 10, 11] rfl
    have hDc := hD.sub (ws' := [(dq, .inr (5, [.int d_thrown, .int d_today, .int d_cut, .int d_aging, .int d_saleFrom, .int d_pieces, .int d_orders, .ref dq8, .ref dq9, .ref dq10, .ref dq11, .ref dq12, .ref dq13, .ref dq14, .ref dq15, .int d_ran, .int d_sum, .ref dq18, .ref dq19, .ref dq20])), (dq8, .inl (cI, 40, .inl d_piece)), (dq9, .inl (cI, 40, .inl d_order)), (dq10, .inl (cI, 10, .inl d_came)), (dq11, .inl (cI, 100, .inl d_worth)), (dq12, .inl (cZ, 10, .inl d_used)), (dq13, .inl (cI, 10, .inl d_usedBy)), (dq14, .inl (cI, 10, .inl d_reservedFor)), (dq15, .inl (cI, 10, .inl d_reservedTo)), (dq18, .inl (cI, 10, .inl d_pieceDual)), (dq19, .inl (cI, 10, .inl d_orderDual)), (dq20, .inl (cJ, 11264, .inr (.inl d_table)))]) [0, 1, 2, 3, 4, 5, 6, 7, 8, 9, 10, 11] (by decide) rfl
    have hFc := va_free (wc := [(dq, .inr (5, [.int d_thrown, .int d_today, .int d_cut, .int d_aging, .int d_saleFrom, .int d_pieces, .int d_orders, .ref dq8, .ref dq9, .ref dq10, .ref dq11, .ref dq12, .ref dq13, .ref dq14, .ref dq15, .int d_ran, .int d_sum, .ref dq18, .ref dq19, .ref dq20])), (dq8, .inl (cI, 40, .inl d_piece)), (dq9, .inl (cI, 40, .inl d_order)), (dq10, .inl (cI, 10, .inl d_came)), (dq11, .inl (cI, 100, .inl d_worth)), (dq12, .inl (cZ, 10, .inl d_used)), (dq13, .inl (cI, 10, .inl d_usedBy)), (dq14, .inl (cI, 10, .inl d_reservedFor)), (dq15, .inl (cI, 10, .inl d_reservedTo)), (dq18, .inl (cI, 10, .inl d_pieceDual)), (dq19, .inl (cI, 10, .inl d_orderDual)), (dq20, .inl (cJ, 11264, .inr (.inl d_table)))]) hD hS hA [0, 1, 2, 3, 4, 5, 6, 7, 8, 9, 10, 11] rfl
    refine va_calli (va_runV (As := [.int r1, .int 0, .int 1, .int 1]) (rest := []) ⟨hx, hb, hml, hown, hts⟩ (c_D_goes l dC dI cI cZ cJ dq dq8 dq9 dq10 dq11 dq12 dq13 dq14 dq15 dq18 dq19 dq20 s.heap.size d_thrown d_today d_cut d_aging d_saleFrom d_pieces d_orders d_piece d_order d_came d_worth d_used d_usedBy d_reservedFor d_reservedTo d_ran d_sum d_pieceDual d_orderDual d_table r1 0 1 1 N (r2, u3) hc) (cwV 4 hts (gV (w0 670 rfl) (w0 671 rfl) (w0 18 rfl) (w0 33 rfl) (w0 672 rfl)) rfl rfl rfl q_D_goes ⟨Nat.le_of_ble_eq_true rfl, Nat.le_of_ble_eq_true rfl⟩) (wr_preV hK hPc hDc hN 5 0 (R_D, F_D, 20) rfl rfl) rfl rfl hl.1 rfl (lv_room (Nat.le_of_ble_eq_true rfl)) d_D_piece_25 ⟨Nat.le_of_ble_eq_true rfl, Nat.le_of_ble_eq_true rfl⟩) hS (fun q _ h => hFc q h) hFc (fun r9 u t H1 locs ht hvm hw hB hz1 hk1 hS => ?_)
    subst hw
    obtain ⟨hP1, hK1, hD1⟩ := hB
    rw [ht] at hP1
    obtain ⟨hP, hD⟩ := va_join (wr := []) (w1 := [(dq, .inr (5, [.int u3, .int d_today, .int d_cut, .int d_aging, .int d_saleFrom, .int d_pieces, .int d_orders, .ref dq8, .ref dq9, .ref dq10, .ref dq11, .ref dq12, .ref dq13, .ref dq14, .ref dq15, .int d_ran, .int d_sum, .ref dq18, .ref dq19, .ref dq20])), (dq8, .inl (cI, 40, .inl d_piece)), (dq9, .inl (cI, 40, .inl d_order)), (dq10, .inl (cI, 10, .inl d_came)), (dq11, .inl (cI, 100, .inl d_worth)), (dq12, .inl (cZ, 10, .inl d_used)), (dq13, .inl (cI, 10, .inl d_usedBy)), (dq14, .inl (cI, 10, .inl d_reservedFor)), (dq15, .inl (cI, 10, .inl d_reservedTo)), (dq18, .inl (cI, 10, .inl d_pieceDual)), (dq19, .inl (cI, 10, .inl d_orderDual)), (dq20, .inl (cJ, 11264, .inr (.inl d_table)))]) hP hD [0, 1, 2, 3, 4, 5, 6, 7, 8, 9, 10, 11] [] rfl rfl (by decide) (by decide) hk1 hFc hP1 hD1
    generalize H1 = H at hP hS ⊢
    have hP : va_P (dC, dI) classes [(dq, .inr (5, [.int u3, .int d_today, .int d_cut, .int d_aging, .int d_saleFrom, .int d_pieces, .int d_orders, .ref dq8, .ref dq9, .ref dq10, .ref dq11, .ref dq12, .ref dq13, .ref dq14, .ref dq15, .int d_ran, .int d_sum, .ref dq18, .ref dq19, .ref dq20])), (dq8, .inl (cI, 40, .inl d_piece)), (dq9, .inl (cI, 40, .inl d_order)), (dq10, .inl (cI, 10, .inl d_came)), (dq11, .inl (cI, 100, .inl d_worth)), (dq12, .inl (cZ, 10, .inl d_used)), (dq13, .inl (cI, 10, .inl d_usedBy)), (dq14, .inl (cI, 10, .inl d_reservedFor)), (dq15, .inl (cI, 10, .inl d_reservedTo)), (dq18, .inl (cI, 10, .inl d_pieceDual)), (dq19, .inl (cI, 10, .inl d_orderDual)), (dq20, .inl (cJ, 11264, .inr (.inl d_table)))] H := hP
    have hD : va_D A [(dq, .inr (5, [.int u3, .int d_today, .int d_cut, .int d_aging, .int d_saleFrom, .int d_pieces, .int d_orders, .ref dq8, .ref dq9, .ref dq10, .ref dq11, .ref dq12, .ref dq13, .ref dq14, .ref dq15, .int d_ran, .int d_sum, .ref dq18, .ref dq19, .ref dq20])), (dq8, .inl (cI, 40, .inl d_piece)), (dq9, .inl (cI, 40, .inl d_order)), (dq10, .inl (cI, 10, .inl d_came)), (dq11, .inl (cI, 100, .inl d_worth)), (dq12, .inl (cZ, 10, .inl d_used)), (dq13, .inl (cI, 10, .inl d_usedBy)), (dq14, .inl (cI, 10, .inl d_reservedFor)), (dq15, .inl (cI, 10, .inl d_reservedTo)), (dq18, .inl (cI, 10, .inl d_pieceDual)), (dq19, .inl (cI, 10, .inl d_orderDual)), (dq20, .inl (cJ, 11264, .inr (.inl d_table)))] := hD
    clear hP1 hD1 hPc hDc hFc hk1 hz1
    refine lv_if_ne (tgt := 33) hx hb d_D_piece_28 (by decide) (fun c9 => ?_) (fun c9 => ?_)
    · replace hm := if_f c9 hm
      refine lv_iconst (v := 4) hx hb d_D_piece_33 (by decide) ?_
      refine lv_aload_n hx hb d_D_piece_34 rfl (lv_at hl 0 rfl) ?_
      refine va_get (D := (dC, dI)) (ci := 5) (v := .int d_pieces) (C := R_D) (T := F_D) (N := 20) hx hb hts hk1 hown hK hP 0 rfl rfl 5 (by decide) hk0 (fun _ h9 => h9) rfl d_D_piece_35 ?_
      refine lv_imul hx hb d_D_piece_38 ?_
      refine lv_istore (lv' := [(5, .int (4 * d_pieces)), (0, .ref dq), (1, .int x1), (2, .int x2), (3, .int x3), (4, .int x4)]) hx hb d_D_piece_39 hl (by decide) rfl (fun ls hl => ?_)
      refine lv_aload_n hx hb d_D_piece_41 rfl (lv_at hl 1 rfl) ?_
      refine va_get (D := (dC, dI)) (ci := 5) (v := .ref dq8) (C := R_D) (T := F_D) (N := 20) hx hb hts hk1 hown hK hP 0 rfl rfl 7 (by decide) hk2 (fun _ h9 => h9) rfl d_D_piece_42 ?_
      refine lv_iload hx hb d_D_piece_45 (lv_at hl 0 rfl) ?_
      refine lv_iload_n hx hb d_D_piece_47 rfl (lv_at hl 2 rfl) ?_
      obtain ⟨h9, hm⟩ := gd hm
      refine va_iast hx hb hK hP hD hS 1 0 rfl rfl h9 d_D_piece_48 (fun H locs hP hD hS => ?_)
      have hP : va_P (dC, dI) classes [(dq, .inr (5, [.int u3, .int d_today, .int d_cut, .int d_aging, .int d_saleFrom, .int d_pieces, .int d_orders, .ref dq8, .ref dq9, .ref dq10, .ref dq11, .ref dq12, .ref dq13, .ref dq14, .ref dq15, .int d_ran, .int d_sum, .ref dq18, .ref dq19, .ref dq20])), (dq8, .inl (cI, 40, .inl (upd d_piece (4 * d_pieces).toNatClampNeg x1))), (dq9, .inl (cI, 40, .inl d_order)), (dq10, .inl (cI, 10, .inl d_came)), (dq11, .inl (cI, 100, .inl d_worth)), (dq12, .inl (cZ, 10, .inl d_used)), (dq13, .inl (cI, 10, .inl d_usedBy)), (dq14, .inl (cI, 10, .inl d_reservedFor)), (dq15, .inl (cI, 10, .inl d_reservedTo)), (dq18, .inl (cI, 10, .inl d_pieceDual)), (dq19, .inl (cI, 10, .inl d_orderDual)), (dq20, .inl (cJ, 11264, .inr (.inl d_table)))] H := hP
      have hD : va_D A [(dq, .inr (5, [.int u3, .int d_today, .int d_cut, .int d_aging, .int d_saleFrom, .int d_pieces, .int d_orders, .ref dq8, .ref dq9, .ref dq10, .ref dq11, .ref dq12, .ref dq13, .ref dq14, .ref dq15, .int d_ran, .int d_sum, .ref dq18, .ref dq19, .ref dq20])), (dq8, .inl (cI, 40, .inl (upd d_piece (4 * d_pieces).toNatClampNeg x1))), (dq9, .inl (cI, 40, .inl d_order)), (dq10, .inl (cI, 10, .inl d_came)), (dq11, .inl (cI, 100, .inl d_worth)), (dq12, .inl (cZ, 10, .inl d_used)), (dq13, .inl (cI, 10, .inl d_usedBy)), (dq14, .inl (cI, 10, .inl d_reservedFor)), (dq15, .inl (cI, 10, .inl d_reservedTo)), (dq18, .inl (cI, 10, .inl d_pieceDual)), (dq19, .inl (cI, 10, .inl d_orderDual)), (dq20, .inl (cJ, 11264, .inr (.inl d_table)))] := hD
      refine lv_aload_n hx hb d_D_piece_49 rfl (lv_at hl 1 rfl) ?_
      refine va_get (D := (dC, dI)) (ci := 5) (v := .ref dq8) (C := R_D) (T := F_D) (N := 20) hx hb hts hk1 hown hK hP 0 rfl rfl 7 (by decide) hk2 (fun _ h9 => h9) rfl d_D_piece_50 ?_
      refine lv_iload hx hb d_D_piece_53 (lv_at hl 0 rfl) ?_
      refine lv_iconst (v := 1) hx hb d_D_piece_55 (by decide) ?_
      refine lv_iadd hx hb d_D_piece_56 ?_
      refine lv_iload_n hx hb d_D_piece_57 rfl (lv_at hl 3 rfl) ?_
      obtain ⟨h9, hm⟩ := gd hm
      refine va_iast hx hb hK hP hD hS 1 0 rfl rfl h9 d_D_piece_58 (fun H locs hP hD hS => ?_)
      have hP : va_P (dC, dI) classes [(dq, .inr (5, [.int u3, .int d_today, .int d_cut, .int d_aging, .int d_saleFrom, .int d_pieces, .int d_orders, .ref dq8, .ref dq9, .ref dq10, .ref dq11, .ref dq12, .ref dq13, .ref dq14, .ref dq15, .int d_ran, .int d_sum, .ref dq18, .ref dq19, .ref dq20])), (dq8, .inl (cI, 40, .inl (upd (upd d_piece (4 * d_pieces).toNatClampNeg x1) ((4 * d_pieces) + 1).toNatClampNeg x2))), (dq9, .inl (cI, 40, .inl d_order)), (dq10, .inl (cI, 10, .inl d_came)), (dq11, .inl (cI, 100, .inl d_worth)), (dq12, .inl (cZ, 10, .inl d_used)), (dq13, .inl (cI, 10, .inl d_usedBy)), (dq14, .inl (cI, 10, .inl d_reservedFor)), (dq15, .inl (cI, 10, .inl d_reservedTo)), (dq18, .inl (cI, 10, .inl d_pieceDual)), (dq19, .inl (cI, 10, .inl d_orderDual)), (dq20, .inl (cJ, 11264, .inr (.inl d_table)))] H := hP
      have hD : va_D A [(dq, .inr (5, [.int u3, .int d_today, .int d_cut, .int d_aging, .int d_saleFrom, .int d_pieces, .int d_orders, .ref dq8, .ref dq9, .ref dq10, .ref dq11, .ref dq12, .ref dq13, .ref dq14, .ref dq15, .int d_ran, .int d_sum, .ref dq18, .ref dq19, .ref dq20])), (dq8, .inl (cI, 40, .inl (upd (upd d_piece (4 * d_pieces).toNatClampNeg x1) ((4 * d_pieces) + 1).toNatClampNeg x2))), (dq9, .inl (cI, 40, .inl d_order)), (dq10, .inl (cI, 10, .inl d_came)), (dq11, .inl (cI, 100, .inl d_worth)), (dq12, .inl (cZ, 10, .inl d_used)), (dq13, .inl (cI, 10, .inl d_usedBy)), (dq14, .inl (cI, 10, .inl d_reservedFor)), (dq15, .inl (cI, 10, .inl d_reservedTo)), (dq18, .inl (cI, 10, .inl d_pieceDual)), (dq19, .inl (cI, 10, .inl d_orderDual)), (dq20, .inl (cJ, 11264, .inr (.inl d_table)))] := hD
      refine lv_aload_n hx hb d_D_piece_59 rfl (lv_at hl 1 rfl) ?_
      refine va_get (D := (dC, dI)) (ci := 5) (v := .ref dq8) (C := R_D) (T := F_D) (N := 20) hx hb hts hk1 hown hK hP 0 rfl rfl 7 (by decide) hk2 (fun _ h9 => h9) rfl d_D_piece_60 ?_
      refine lv_iload hx hb d_D_piece_63 (lv_at hl 0 rfl) ?_
      refine lv_iconst (v := 2) hx hb d_D_piece_65 (by decide) ?_
      refine lv_iadd hx hb d_D_piece_66 ?_
      refine lv_iload_n hx hb d_D_piece_67 rfl (lv_at hl 4 rfl) ?_
      obtain ⟨h9, hm⟩ := gd hm
      refine va_iast hx hb hK hP hD hS 1 0 rfl rfl h9 d_D_piece_68 (fun H locs hP hD hS => ?_)
      have hP : va_P (dC, dI) classes [(dq, .inr (5, [.int u3, .int d_today, .int d_cut, .int d_aging, .int d_saleFrom, .int d_pieces, .int d_orders, .ref dq8, .ref dq9, .ref dq10, .ref dq11, .ref dq12, .ref dq13, .ref dq14, .ref dq15, .int d_ran, .int d_sum, .ref dq18, .ref dq19, .ref dq20])), (dq8, .inl (cI, 40, .inl (upd (upd (upd d_piece (4 * d_pieces).toNatClampNeg x1) ((4 * d_pieces) + 1).toNatClampNeg x2) ((4 * d_pieces) + 2).toNatClampNeg x3))), (dq9, .inl (cI, 40, .inl d_order)), (dq10, .inl (cI, 10, .inl d_came)), (dq11, .inl (cI, 100, .inl d_worth)), (dq12, .inl (cZ, 10, .inl d_used)), (dq13, .inl (cI, 10, .inl d_usedBy)), (dq14, .inl (cI, 10, .inl d_reservedFor)), (dq15, .inl (cI, 10, .inl d_reservedTo)), (dq18, .inl (cI, 10, .inl d_pieceDual)), (dq19, .inl (cI, 10, .inl d_orderDual)), (dq20, .inl (cJ, 11264, .inr (.inl d_table)))] H := hP
      have hD : va_D A [(dq, .inr (5, [.int u3, .int d_today, .int d_cut, .int d_aging, .int d_saleFrom, .int d_pieces, .int d_orders, .ref dq8, .ref dq9, .ref dq10, .ref dq11, .ref dq12, .ref dq13, .ref dq14, .ref dq15, .int d_ran, .int d_sum, .ref dq18, .ref dq19, .ref dq20])), (dq8, .inl (cI, 40, .inl (upd (upd (upd d_piece (4 * d_pieces).toNatClampNeg x1) ((4 * d_pieces) + 1).toNatClampNeg x2) ((4 * d_pieces) + 2).toNatClampNeg x3))), (dq9, .inl (cI, 40, .inl d_order)), (dq10, .inl (cI, 10, .inl d_came)), (dq11, .inl (cI, 100, .inl d_worth)), (dq12, .inl (cZ, 10, .inl d_used)), (dq13, .inl (cI, 10, .inl d_usedBy)), (dq14, .inl (cI, 10, .inl d_reservedFor)), (dq15, .inl (cI, 10, .inl d_reservedTo)), (dq18, .inl (cI, 10, .inl d_pieceDual)), (dq19, .inl (cI, 10, .inl d_orderDual)), (dq20, .inl (cJ, 11264, .inr (.inl d_table)))] := hD
      refine lv_aload_n hx hb d_D_piece_69 rfl (lv_at hl 1 rfl) ?_
      refine va_get (D := (dC, dI)) (ci := 5) (v := .ref dq8) (C := R_D) (T := F_D) (N := 20) hx hb hts hk1 hown hK hP 0 rfl rfl 7 (by decide) hk2 (fun _ h9 => h9) rfl d_D_piece_70 ?_
      refine lv_iload hx hb d_D_piece_73 (lv_at hl 0 rfl) ?_
      refine lv_iconst (v := 3) hx hb d_D_piece_75 (by decide) ?_
      refine lv_iadd hx hb d_D_piece_76 ?_
      refine lv_iload hx hb d_D_piece_77 (lv_at hl 5 rfl) ?_
      obtain ⟨h9, hm⟩ := gd hm
      refine va_iast hx hb hK hP hD hS 1 0 rfl rfl h9 d_D_piece_79 (fun H locs hP hD hS => ?_)
      have hP : va_P (dC, dI) classes [(dq, .inr (5, [.int u3, .int d_today, .int d_cut, .int d_aging, .int d_saleFrom, .int d_pieces, .int d_orders, .ref dq8, .ref dq9, .ref dq10, .ref dq11, .ref dq12, .ref dq13, .ref dq14, .ref dq15, .int d_ran, .int d_sum, .ref dq18, .ref dq19, .ref dq20])), (dq8, .inl (cI, 40, .inl (upd (upd (upd (upd d_piece (4 * d_pieces).toNatClampNeg x1) ((4 * d_pieces) + 1).toNatClampNeg x2) ((4 * d_pieces) + 2).toNatClampNeg x3) ((4 * d_pieces) + 3).toNatClampNeg x4))), (dq9, .inl (cI, 40, .inl d_order)), (dq10, .inl (cI, 10, .inl d_came)), (dq11, .inl (cI, 100, .inl d_worth)), (dq12, .inl (cZ, 10, .inl d_used)), (dq13, .inl (cI, 10, .inl d_usedBy)), (dq14, .inl (cI, 10, .inl d_reservedFor)), (dq15, .inl (cI, 10, .inl d_reservedTo)), (dq18, .inl (cI, 10, .inl d_pieceDual)), (dq19, .inl (cI, 10, .inl d_orderDual)), (dq20, .inl (cJ, 11264, .inr (.inl d_table)))] H := hP
      have hD : va_D A [(dq, .inr (5, [.int u3, .int d_today, .int d_cut, .int d_aging, .int d_saleFrom, .int d_pieces, .int d_orders, .ref dq8, .ref dq9, .ref dq10, .ref dq11, .ref dq12, .ref dq13, .ref dq14, .ref dq15, .int d_ran, .int d_sum, .ref dq18, .ref dq19, .ref dq20])), (dq8, .inl (cI, 40, .inl (upd (upd (upd (upd d_piece (4 * d_pieces).toNatClampNeg x1) ((4 * d_pieces) + 1).toNatClampNeg x2) ((4 * d_pieces) + 2).toNatClampNeg x3) ((4 * d_pieces) + 3).toNatClampNeg x4))), (dq9, .inl (cI, 40, .inl d_order)), (dq10, .inl (cI, 10, .inl d_came)), (dq11, .inl (cI, 100, .inl d_worth)), (dq12, .inl (cZ, 10, .inl d_used)), (dq13, .inl (cI, 10, .inl d_usedBy)), (dq14, .inl (cI, 10, .inl d_reservedFor)), (dq15, .inl (cI, 10, .inl d_reservedTo)), (dq18, .inl (cI, 10, .inl d_pieceDual)), (dq19, .inl (cI, 10, .inl d_orderDual)), (dq20, .inl (cJ, 11264, .inr (.inl d_table)))] := hD
      refine lv_aload_n hx hb d_D_piece_80 rfl (lv_at hl 1 rfl) ?_
      refine va_get (D := (dC, dI)) (ci := 5) (v := .ref dq10) (C := R_D) (T := F_D) (N := 20) hx hb hts hk1 hown hK hP 0 rfl rfl 9 (by decide) hk3 (fun _ h9 => h9) rfl d_D_piece_81 ?_
      refine lv_aload_n hx hb d_D_piece_84 rfl (lv_at hl 1 rfl) ?_
      refine va_get (D := (dC, dI)) (ci := 5) (v := .int d_pieces) (C := R_D) (T := F_D) (N := 20) hx hb hts hk1 hown hK hP 0 rfl rfl 5 (by decide) hk0 (fun _ h9 => h9) rfl d_D_piece_85 ?_
      refine lv_aload_n hx hb d_D_piece_88 rfl (lv_at hl 1 rfl) ?_
      refine va_get (D := (dC, dI)) (ci := 5) (v := .int d_today) (C := R_D) (T := F_D) (N := 20) hx hb hts hk1 hown hK hP 0 rfl rfl 1 (by decide) hk4 (fun _ h9 => h9) rfl d_D_piece_89 ?_
      obtain ⟨h9, hm⟩ := gd hm
      refine va_iast hx hb hK hP hD hS 3 0 rfl rfl h9 d_D_piece_92 (fun H locs hP hD hS => ?_)
      have hP : va_P (dC, dI) classes [(dq, .inr (5, [.int u3, .int d_today, .int d_cut, .int d_aging, .int d_saleFrom, .int d_pieces, .int d_orders, .ref dq8, .ref dq9, .ref dq10, .ref dq11, .ref dq12, .ref dq13, .ref dq14, .ref dq15, .int d_ran, .int d_sum, .ref dq18, .ref dq19, .ref dq20])), (dq8, .inl (cI, 40, .inl (upd (upd (upd (upd d_piece (4 * d_pieces).toNatClampNeg x1) ((4 * d_pieces) + 1).toNatClampNeg x2) ((4 * d_pieces) + 2).toNatClampNeg x3) ((4 * d_pieces) + 3).toNatClampNeg x4))), (dq9, .inl (cI, 40, .inl d_order)), (dq10, .inl (cI, 10, .inl (upd d_came d_pieces.toNatClampNeg d_today))), (dq11, .inl (cI, 100, .inl d_worth)), (dq12, .inl (cZ, 10, .inl d_used)), (dq13, .inl (cI, 10, .inl d_usedBy)), (dq14, .inl (cI, 10, .inl d_reservedFor)), (dq15, .inl (cI, 10, .inl d_reservedTo)), (dq18, .inl (cI, 10, .inl d_pieceDual)), (dq19, .inl (cI, 10, .inl d_orderDual)), (dq20, .inl (cJ, 11264, .inr (.inl d_table)))] H := hP
      have hD : va_D A [(dq, .inr (5, [.int u3, .int d_today, .int d_cut, .int d_aging, .int d_saleFrom, .int d_pieces, .int d_orders, .ref dq8, .ref dq9, .ref dq10, .ref dq11, .ref dq12, .ref dq13, .ref dq14, .ref dq15, .int d_ran, .int d_sum, .ref dq18, .ref dq19, .ref dq20])), (dq8, .inl (cI, 40, .inl (upd (upd (upd (upd d_piece (4 * d_pieces).toNatClampNeg x1) ((4 * d_pieces) + 1).toNatClampNeg x2) ((4 * d_pieces) + 2).toNatClampNeg x3) ((4 * d_pieces) + 3).toNatClampNeg x4))), (dq9, .inl (cI, 40, .inl d_order)), (dq10, .inl (cI, 10, .inl (upd d_came d_pieces.toNatClampNeg d_today))), (dq11, .inl (cI, 100, .inl d_worth)), (dq12, .inl (cZ, 10, .inl d_used)), (dq13, .inl (cI, 10, .inl d_usedBy)), (dq14, .inl (cI, 10, .inl d_reservedFor)), (dq15, .inl (cI, 10, .inl d_reservedTo)), (dq18, .inl (cI, 10, .inl d_pieceDual)), (dq19, .inl (cI, 10, .inl d_orderDual)), (dq20, .inl (cJ, 11264, .inr (.inl d_table)))] := hD
      refine lv_aload_n hx hb d_D_piece_93 rfl (lv_at hl 1 rfl) ?_
      refine va_get (D := (dC, dI)) (ci := 5) (v := .ref dq14) (C := R_D) (T := F_D) (N := 20) hx hb hts hk1 hown hK hP 0 rfl rfl 13 (by decide) hk5 (fun _ h9 => h9) rfl d_D_piece_94 ?_
      refine lv_aload_n hx hb d_D_piece_97 rfl (lv_at hl 1 rfl) ?_
      refine va_get (D := (dC, dI)) (ci := 5) (v := .int d_pieces) (C := R_D) (T := F_D) (N := 20) hx hb hts hk1 hown hK hP 0 rfl rfl 5 (by decide) hk0 (fun _ h9 => h9) rfl d_D_piece_98 ?_
      refine lv_iconst (v := (-1)) hx hb d_D_piece_101 (by decide) ?_
      obtain ⟨h9, hm⟩ := gd hm
      refine va_iast hx hb hK hP hD hS 7 0 rfl rfl h9 d_D_piece_102 (fun H locs hP hD hS => ?_)
      have hP : va_P (dC, dI) classes [(dq, .inr (5, [.int u3, .int d_today, .int d_cut, .int d_aging, .int d_saleFrom, .int d_pieces, .int d_orders, .ref dq8, .ref dq9, .ref dq10, .ref dq11, .ref dq12, .ref dq13, .ref dq14, .ref dq15, .int d_ran, .int d_sum, .ref dq18, .ref dq19, .ref dq20])), (dq8, .inl (cI, 40, .inl (upd (upd (upd (upd d_piece (4 * d_pieces).toNatClampNeg x1) ((4 * d_pieces) + 1).toNatClampNeg x2) ((4 * d_pieces) + 2).toNatClampNeg x3) ((4 * d_pieces) + 3).toNatClampNeg x4))), (dq9, .inl (cI, 40, .inl d_order)), (dq10, .inl (cI, 10, .inl (upd d_came d_pieces.toNatClampNeg d_today))), (dq11, .inl (cI, 100, .inl d_worth)), (dq12, .inl (cZ, 10, .inl d_used)), (dq13, .inl (cI, 10, .inl d_usedBy)), (dq14, .inl (cI, 10, .inl (upd d_reservedFor d_pieces.toNatClampNeg (-1)))), (dq15, .inl (cI, 10, .inl d_reservedTo)), (dq18, .inl (cI, 10, .inl d_pieceDual)), (dq19, .inl (cI, 10, .inl d_orderDual)), (dq20, .inl (cJ, 11264, .inr (.inl d_table)))] H := hP
      have hD : va_D A [(dq, .inr (5, [.int u3, .int d_today, .int d_cut, .int d_aging, .int d_saleFrom, .int d_pieces, .int d_orders, .ref dq8, .ref dq9, .ref dq10, .ref dq11, .ref dq12, .ref dq13, .ref dq14, .ref dq15, .int d_ran, .int d_sum, .ref dq18, .ref dq19, .ref dq20])), (dq8, .inl (cI, 40, .inl (upd (upd (upd (upd d_piece (4 * d_pieces).toNatClampNeg x1) ((4 * d_pieces) + 1).toNatClampNeg x2) ((4 * d_pieces) + 2).toNatClampNeg x3) ((4 * d_pieces) + 3).toNatClampNeg x4))), (dq9, .inl (cI, 40, .inl d_order)), (dq10, .inl (cI, 10, .inl (upd d_came d_pieces.toNatClampNeg d_today))), (dq11, .inl (cI, 100, .inl d_worth)), (dq12, .inl (cZ, 10, .inl d_used)), (dq13, .inl (cI, 10, .inl d_usedBy)), (dq14, .inl (cI, 10, .inl (upd d_reservedFor d_pieces.toNatClampNeg (-1)))), (dq15, .inl (cI, 10, .inl d_reservedTo)), (dq18, .inl (cI, 10, .inl d_pieceDual)), (dq19, .inl (cI, 10, .inl d_orderDual)), (dq20, .inl (cJ, 11264, .inr (.inl d_table)))] := hD
      refine lv_aload_n hx hb d_D_piece_103 rfl (lv_at hl 1 rfl) ?_
      refine lv_iconst (v := 0) hx hb d_D_piece_104 (by decide) ?_
      refine va_put (D := (dC, dI)) (ci := 5) (v := .int 0) (ty := .boolean) (C := R_D) (T := F_D) (N := 20) hx hb hts hk1 t_D t_D_ok n_D hown hK hP hD hS 0 rfl rfl 15 (by decide) hk6 (fun _ h9 => h9) rfl (by decide +kernel) rfl rfl (Nat.le_of_ble_eq_true rfl) d_D_piece_105 (fun H locs hP hD hS => ?_)
      have hP : va_P (dC, dI) classes [(dq, .inr (5, [.int u3, .int d_today, .int d_cut, .int d_aging, .int d_saleFrom, .int d_pieces, .int d_orders, .ref dq8, .ref dq9, .ref dq10, .ref dq11, .ref dq12, .ref dq13, .ref dq14, .ref dq15, .int 0, .int d_sum, .ref dq18, .ref dq19, .ref dq20])), (dq8, .inl (cI, 40, .inl (upd (upd (upd (upd d_piece (4 * d_pieces).toNatClampNeg x1) ((4 * d_pieces) + 1).toNatClampNeg x2) ((4 * d_pieces) + 2).toNatClampNeg x3) ((4 * d_pieces) + 3).toNatClampNeg x4))), (dq9, .inl (cI, 40, .inl d_order)), (dq10, .inl (cI, 10, .inl (upd d_came d_pieces.toNatClampNeg d_today))), (dq11, .inl (cI, 100, .inl d_worth)), (dq12, .inl (cZ, 10, .inl d_used)), (dq13, .inl (cI, 10, .inl d_usedBy)), (dq14, .inl (cI, 10, .inl (upd d_reservedFor d_pieces.toNatClampNeg (-1)))), (dq15, .inl (cI, 10, .inl d_reservedTo)), (dq18, .inl (cI, 10, .inl d_pieceDual)), (dq19, .inl (cI, 10, .inl d_orderDual)), (dq20, .inl (cJ, 11264, .inr (.inl d_table)))] H := hP
      have hD : va_D A [(dq, .inr (5, [.int u3, .int d_today, .int d_cut, .int d_aging, .int d_saleFrom, .int d_pieces, .int d_orders, .ref dq8, .ref dq9, .ref dq10, .ref dq11, .ref dq12, .ref dq13, .ref dq14, .ref dq15, .int 0, .int d_sum, .ref dq18, .ref dq19, .ref dq20])), (dq8, .inl (cI, 40, .inl (upd (upd (upd (upd d_piece (4 * d_pieces).toNatClampNeg x1) ((4 * d_pieces) + 1).toNatClampNeg x2) ((4 * d_pieces) + 2).toNatClampNeg x3) ((4 * d_pieces) + 3).toNatClampNeg x4))), (dq9, .inl (cI, 40, .inl d_order)), (dq10, .inl (cI, 10, .inl (upd d_came d_pieces.toNatClampNeg d_today))), (dq11, .inl (cI, 100, .inl d_worth)), (dq12, .inl (cZ, 10, .inl d_used)), (dq13, .inl (cI, 10, .inl d_usedBy)), (dq14, .inl (cI, 10, .inl (upd d_reservedFor d_pieces.toNatClampNeg (-1)))), (dq15, .inl (cI, 10, .inl d_reservedTo)), (dq18, .inl (cI, 10, .inl d_pieceDual)), (dq19, .inl (cI, 10, .inl d_orderDual)), (dq20, .inl (cJ, 11264, .inr (.inl d_table)))] := hD
      refine lv_aload_n hx hb d_D_piece_108 rfl (lv_at hl 1 rfl) ?_
      refine lv_dup hx hb d_D_piece_109 rfl ?_
      refine va_get (D := (dC, dI)) (ci := 5) (v := .int d_pieces) (C := R_D) (T := F_D) (N := 20) hx hb hts hk1 hown hK hP 0 rfl rfl 5 (by decide) hk0 (fun _ h9 => h9) rfl d_D_piece_110 ?_
      refine lv_iconst (v := 1) hx hb d_D_piece_113 (by decide) ?_
      refine lv_iadd hx hb d_D_piece_114 ?_
      refine va_put (D := (dC, dI)) (ci := 5) (v := .int (d_pieces + 1)) (ty := .int) (C := R_D) (T := F_D) (N := 20) hx hb hts hk1 t_D t_D_ok n_D hown hK hP hD hS 0 rfl rfl 5 (by decide) hk0 (fun _ h9 => h9) rfl (by decide +kernel) rfl rfl (Nat.le_of_ble_eq_true rfl) d_D_piece_115 (fun H locs hP hD hS => ?_)
      have hP : va_P (dC, dI) classes [(dq, .inr (5, [.int u3, .int d_today, .int d_cut, .int d_aging, .int d_saleFrom, .int (d_pieces + 1), .int d_orders, .ref dq8, .ref dq9, .ref dq10, .ref dq11, .ref dq12, .ref dq13, .ref dq14, .ref dq15, .int 0, .int d_sum, .ref dq18, .ref dq19, .ref dq20])), (dq8, .inl (cI, 40, .inl (upd (upd (upd (upd d_piece (4 * d_pieces).toNatClampNeg x1) ((4 * d_pieces) + 1).toNatClampNeg x2) ((4 * d_pieces) + 2).toNatClampNeg x3) ((4 * d_pieces) + 3).toNatClampNeg x4))), (dq9, .inl (cI, 40, .inl d_order)), (dq10, .inl (cI, 10, .inl (upd d_came d_pieces.toNatClampNeg d_today))), (dq11, .inl (cI, 100, .inl d_worth)), (dq12, .inl (cZ, 10, .inl d_used)), (dq13, .inl (cI, 10, .inl d_usedBy)), (dq14, .inl (cI, 10, .inl (upd d_reservedFor d_pieces.toNatClampNeg (-1)))), (dq15, .inl (cI, 10, .inl d_reservedTo)), (dq18, .inl (cI, 10, .inl d_pieceDual)), (dq19, .inl (cI, 10, .inl d_orderDual)), (dq20, .inl (cJ, 11264, .inr (.inl d_table)))] H := hP
      have hD : va_D A [(dq, .inr (5, [.int u3, .int d_today, .int d_cut, .int d_aging, .int d_saleFrom, .int (d_pieces + 1), .int d_orders, .ref dq8, .ref dq9, .ref dq10, .ref dq11, .ref dq12, .ref dq13, .ref dq14, .ref dq15, .int 0, .int d_sum, .ref dq18, .ref dq19, .ref dq20])), (dq8, .inl (cI, 40, .inl (upd (upd (upd (upd d_piece (4 * d_pieces).toNatClampNeg x1) ((4 * d_pieces) + 1).toNatClampNeg x2) ((4 * d_pieces) + 2).toNatClampNeg x3) ((4 * d_pieces) + 3).toNatClampNeg x4))), (dq9, .inl (cI, 40, .inl d_order)), (dq10, .inl (cI, 10, .inl (upd d_came d_pieces.toNatClampNeg d_today))), (dq11, .inl (cI, 100, .inl d_worth)), (dq12, .inl (cZ, 10, .inl d_used)), (dq13, .inl (cI, 10, .inl d_usedBy)), (dq14, .inl (cI, 10, .inl (upd d_reservedFor d_pieces.toNatClampNeg (-1)))), (dq15, .inl (cI, 10, .inl d_reservedTo)), (dq18, .inl (cI, 10, .inl d_pieceDual)), (dq19, .inl (cI, 10, .inl d_orderDual)), (dq20, .inl (cJ, 11264, .inr (.inl d_table)))] := hD
      refine lv_aload_n hx hb d_D_piece_118 rfl (lv_at hl 1 rfl) ?_
      refine va_get (D := (dC, dI)) (ci := 5) (v := .int (d_pieces + 1)) (C := R_D) (T := F_D) (N := 20) hx hb hts hk1 hown hK hP 0 rfl rfl 5 (by decide) hk0 (fun _ h9 => h9) rfl d_D_piece_119 ?_
      refine lv_iconst (v := 1) hx hb d_D_piece_122 (by decide) ?_
      refine lv_isub hx hb d_D_piece_123 ?_
      cases hm
      refine W.widen (k := 0) (n := 0) (Nat.le_of_ble_eq_true rfl) (Nat.le_of_ble_eq_true rfl) ?_
      exact W.iret hx hb hr (fun t ht hW => ⟨⟨_, (), rfl, rfl, by rw [ht]; exact hP, va_K.moved hW.alike hK, hD⟩, hS.F ht⟩) hS.2.2 d_D_piece_124
    · replace hm := if_t c9 hm
      refine lv_iconst (v := 0) hx hb d_D_piece_31 (by decide) ?_
      cases hm
      refine W.widen (k := 0) (n := 0) (Nat.le_of_ble_eq_true rfl) (Nat.le_of_ble_eq_true rfl) ?_
      exact W.iret hx hb hr (fun t ht hW => ⟨⟨_, (), rfl, rfl, by rw [ht]; exact hP, va_K.moved hW.alike hK, hD⟩, hS.F ht⟩) hS.2.2 d_D_piece_32
  · replace hm := if_f c9 hm
    refine lv_iconst (v := 1) hx hb d_D_piece_18 (by decide) ?_
    refine lv_goto (tgt := 23) hx hb d_D_piece_19 (by decide) ?_
    refine lv_iconst (v := 1) hx hb d_D_piece_23 (by decide) ?_
    refine lv_iconst (v := 1) hx hb d_D_piece_24 (by decide) ?_
    obtain ⟨⟨r5, u6⟩, hc, hm⟩ := bd hm
    try dsimp only at hm
    have hPc := hP.sub (ws' := [(dq, .inr (5, [.int d_thrown, .int d_today, .int d_cut, .int d_aging, .int d_saleFrom, .int d_pieces, .int d_orders, .ref dq8, .ref dq9, .ref dq10, .ref dq11, .ref dq12, .ref dq13, .ref dq14, .ref dq15, .int d_ran, .int d_sum, .ref dq18, .ref dq19, .ref dq20])), (dq8, .inl (cI, 40, .inl d_piece)), (dq9, .inl (cI, 40, .inl d_order)), (dq10, .inl (cI, 10, .inl d_came)), (dq11, .inl (cI, 100, .inl d_worth)), (dq12, .inl (cZ, 10, .inl d_used)), (dq13, .inl (cI, 10, .inl d_usedBy)), (dq14, .inl (cI, 10, .inl d_reservedFor)), (dq15, .inl (cI, 10, .inl d_reservedTo)), (dq18, .inl (cI, 10, .inl d_pieceDual)), (dq19, .inl (cI, 10, .inl d_orderDual)), (dq20, .inl (cJ, 11264, .inr (.inl d_table)))]) [0, 1, 2, 3, 4, 5, 6, 7, 8, 9, 10, 11] rfl
    have hDc := hD.sub (ws' := [(dq, .inr (5, [.int d_thrown, .int d_today, .int d_cut, .int d_aging, .int d_saleFrom, .int d_pieces, .int d_orders, .ref dq8, .ref dq9, .ref dq10, .ref dq11, .ref dq12, .ref dq13, .ref dq14, .ref dq15, .int d_ran, .int d_sum, .ref dq18, .ref dq19, .ref dq20])), (dq8, .inl (cI, 40, .inl d_piece)), (dq9, .inl (cI, 40, .inl d_order)), (dq10, .inl (cI, 10, .inl d_came)), (dq11, .inl (cI, 100, .inl d_worth)), (dq12, .inl (cZ, 10, .inl d_used)), (dq13, .inl (cI, 10, .inl d_usedBy)), (dq14, .inl (cI, 10, .inl d_reservedFor)), (dq15, .inl (cI, 10, .inl d_reservedTo)), (dq18, .inl (cI, 10, .inl d_pieceDual)), (dq19, .inl (cI, 10, .inl d_orderDual)), (dq20, .inl (cJ, 11264, .inr (.inl d_table)))]) [0, 1, 2, 3, 4, 5, 6, 7, 8, 9, 10, 11] (by decide) rfl
    have hFc := va_free (wc := [(dq, .inr (5, [.int d_thrown, .int d_today, .int d_cut, .int d_aging, .int d_saleFrom, .int d_pieces, .int d_orders, .ref dq8, .ref dq9, .ref dq10, .ref dq11, .ref dq12, .ref dq13, .ref dq14, .ref dq15, .int d_ran, .int d_sum, .ref dq18, .ref dq19, .ref dq20])), (dq8, .inl (cI, 40, .inl d_piece)), (dq9, .inl (cI, 40, .inl d_order)), (dq10, .inl (cI, 10, .inl d_came)), (dq11, .inl (cI, 100, .inl d_worth)), (dq12, .inl (cZ, 10, .inl d_used)), (dq13, .inl (cI, 10, .inl d_usedBy)), (dq14, .inl (cI, 10, .inl d_reservedFor)), (dq15, .inl (cI, 10, .inl d_reservedTo)), (dq18, .inl (cI, 10, .inl d_pieceDual)), (dq19, .inl (cI, 10, .inl d_orderDual)), (dq20, .inl (cJ, 11264, .inr (.inl d_table)))]) hD hS hA [0, 1, 2, 3, 4, 5, 6, 7, 8, 9, 10, 11] rfl
    refine va_calli (va_runV (As := [.int r1, .int 1, .int 1, .int 1]) (rest := []) ⟨hx, hb, hml, hown, hts⟩ (c_D_goes l dC dI cI cZ cJ dq dq8 dq9 dq10 dq11 dq12 dq13 dq14 dq15 dq18 dq19 dq20 s.heap.size d_thrown d_today d_cut d_aging d_saleFrom d_pieces d_orders d_piece d_order d_came d_worth d_used d_usedBy d_reservedFor d_reservedTo d_ran d_sum d_pieceDual d_orderDual d_table r1 1 1 1 N (r5, u6) hc) (cwV 4 hts (gV (w0 670 rfl) (w0 671 rfl) (w0 18 rfl) (w0 33 rfl) (w0 672 rfl)) rfl rfl rfl q_D_goes ⟨Nat.le_of_ble_eq_true rfl, Nat.le_of_ble_eq_true rfl⟩) (wr_preV hK hPc hDc hN 5 0 (R_D, F_D, 20) rfl rfl) rfl rfl hl.1 rfl (lv_room (Nat.le_of_ble_eq_true rfl)) d_D_piece_25 ⟨Nat.le_of_ble_eq_true rfl, Nat.le_of_ble_eq_true rfl⟩) hS (fun q _ h => hFc q h) hFc (fun r9 u t H1 locs ht hvm hw hB hz1 hk1 hS => ?_)
    subst hw
    obtain ⟨hP1, hK1, hD1⟩ := hB
    rw [ht] at hP1
    obtain ⟨hP, hD⟩ := va_join (wr := []) (w1 := [(dq, .inr (5, [.int u6, .int d_today, .int d_cut, .int d_aging, .int d_saleFrom, .int d_pieces, .int d_orders, .ref dq8, .ref dq9, .ref dq10, .ref dq11, .ref dq12, .ref dq13, .ref dq14, .ref dq15, .int d_ran, .int d_sum, .ref dq18, .ref dq19, .ref dq20])), (dq8, .inl (cI, 40, .inl d_piece)), (dq9, .inl (cI, 40, .inl d_order)), (dq10, .inl (cI, 10, .inl d_came)), (dq11, .inl (cI, 100, .inl d_worth)), (dq12, .inl (cZ, 10, .inl d_used)), (dq13, .inl (cI, 10, .inl d_usedBy)), (dq14, .inl (cI, 10, .inl d_reservedFor)), (dq15, .inl (cI, 10, .inl d_reservedTo)), (dq18, .inl (cI, 10, .inl d_pieceDual)), (dq19, .inl (cI, 10, .inl d_orderDual)), (dq20, .inl (cJ, 11264, .inr (.inl d_table)))]) hP hD [0, 1, 2, 3, 4, 5, 6, 7, 8, 9, 10, 11] [] rfl rfl (by decide) (by decide) hk1 hFc hP1 hD1
    generalize H1 = H at hP hS ⊢
    have hP : va_P (dC, dI) classes [(dq, .inr (5, [.int u6, .int d_today, .int d_cut, .int d_aging, .int d_saleFrom, .int d_pieces, .int d_orders, .ref dq8, .ref dq9, .ref dq10, .ref dq11, .ref dq12, .ref dq13, .ref dq14, .ref dq15, .int d_ran, .int d_sum, .ref dq18, .ref dq19, .ref dq20])), (dq8, .inl (cI, 40, .inl d_piece)), (dq9, .inl (cI, 40, .inl d_order)), (dq10, .inl (cI, 10, .inl d_came)), (dq11, .inl (cI, 100, .inl d_worth)), (dq12, .inl (cZ, 10, .inl d_used)), (dq13, .inl (cI, 10, .inl d_usedBy)), (dq14, .inl (cI, 10, .inl d_reservedFor)), (dq15, .inl (cI, 10, .inl d_reservedTo)), (dq18, .inl (cI, 10, .inl d_pieceDual)), (dq19, .inl (cI, 10, .inl d_orderDual)), (dq20, .inl (cJ, 11264, .inr (.inl d_table)))] H := hP
    have hD : va_D A [(dq, .inr (5, [.int u6, .int d_today, .int d_cut, .int d_aging, .int d_saleFrom, .int d_pieces, .int d_orders, .ref dq8, .ref dq9, .ref dq10, .ref dq11, .ref dq12, .ref dq13, .ref dq14, .ref dq15, .int d_ran, .int d_sum, .ref dq18, .ref dq19, .ref dq20])), (dq8, .inl (cI, 40, .inl d_piece)), (dq9, .inl (cI, 40, .inl d_order)), (dq10, .inl (cI, 10, .inl d_came)), (dq11, .inl (cI, 100, .inl d_worth)), (dq12, .inl (cZ, 10, .inl d_used)), (dq13, .inl (cI, 10, .inl d_usedBy)), (dq14, .inl (cI, 10, .inl d_reservedFor)), (dq15, .inl (cI, 10, .inl d_reservedTo)), (dq18, .inl (cI, 10, .inl d_pieceDual)), (dq19, .inl (cI, 10, .inl d_orderDual)), (dq20, .inl (cJ, 11264, .inr (.inl d_table)))] := hD
    clear hP1 hD1 hPc hDc hFc hk1 hz1
    refine lv_if_ne (tgt := 33) hx hb d_D_piece_28 (by decide) (fun c9 => ?_) (fun c9 => ?_)
    · replace hm := if_f c9 hm
      refine lv_iconst (v := 4) hx hb d_D_piece_33 (by decide) ?_
      refine lv_aload_n hx hb d_D_piece_34 rfl (lv_at hl 0 rfl) ?_
      refine va_get (D := (dC, dI)) (ci := 5) (v := .int d_pieces) (C := R_D) (T := F_D) (N := 20) hx hb hts hk1 hown hK hP 0 rfl rfl 5 (by decide) hk0 (fun _ h9 => h9) rfl d_D_piece_35 ?_
      refine lv_imul hx hb d_D_piece_38 ?_
      refine lv_istore (lv' := [(5, .int (4 * d_pieces)), (0, .ref dq), (1, .int x1), (2, .int x2), (3, .int x3), (4, .int x4)]) hx hb d_D_piece_39 hl (by decide) rfl (fun ls hl => ?_)
      refine lv_aload_n hx hb d_D_piece_41 rfl (lv_at hl 1 rfl) ?_
      refine va_get (D := (dC, dI)) (ci := 5) (v := .ref dq8) (C := R_D) (T := F_D) (N := 20) hx hb hts hk1 hown hK hP 0 rfl rfl 7 (by decide) hk2 (fun _ h9 => h9) rfl d_D_piece_42 ?_
      refine lv_iload hx hb d_D_piece_45 (lv_at hl 0 rfl) ?_
      refine lv_iload_n hx hb d_D_piece_47 rfl (lv_at hl 2 rfl) ?_
      obtain ⟨h9, hm⟩ := gd hm
      refine va_iast hx hb hK hP hD hS 1 0 rfl rfl h9 d_D_piece_48 (fun H locs hP hD hS => ?_)
      have hP : va_P (dC, dI) classes [(dq, .inr (5, [.int u6, .int d_today, .int d_cut, .int d_aging, .int d_saleFrom, .int d_pieces, .int d_orders, .ref dq8, .ref dq9, .ref dq10, .ref dq11, .ref dq12, .ref dq13, .ref dq14, .ref dq15, .int d_ran, .int d_sum, .ref dq18, .ref dq19, .ref dq20])), (dq8, .inl (cI, 40, .inl (upd d_piece (4 * d_pieces).toNatClampNeg x1))), (dq9, .inl (cI, 40, .inl d_order)), (dq10, .inl (cI, 10, .inl d_came)), (dq11, .inl (cI, 100, .inl d_worth)), (dq12, .inl (cZ, 10, .inl d_used)), (dq13, .inl (cI, 10, .inl d_usedBy)), (dq14, .inl (cI, 10, .inl d_reservedFor)), (dq15, .inl (cI, 10, .inl d_reservedTo)), (dq18, .inl (cI, 10, .inl d_pieceDual)), (dq19, .inl (cI, 10, .inl d_orderDual)), (dq20, .inl (cJ, 11264, .inr (.inl d_table)))] H := hP
      have hD : va_D A [(dq, .inr (5, [.int u6, .int d_today, .int d_cut, .int d_aging, .int d_saleFrom, .int d_pieces, .int d_orders, .ref dq8, .ref dq9, .ref dq10, .ref dq11, .ref dq12, .ref dq13, .ref dq14, .ref dq15, .int d_ran, .int d_sum, .ref dq18, .ref dq19, .ref dq20])), (dq8, .inl (cI, 40, .inl (upd d_piece (4 * d_pieces).toNatClampNeg x1))), (dq9, .inl (cI, 40, .inl d_order)), (dq10, .inl (cI, 10, .inl d_came)), (dq11, .inl (cI, 100, .inl d_worth)), (dq12, .inl (cZ, 10, .inl d_used)), (dq13, .inl (cI, 10, .inl d_usedBy)), (dq14, .inl (cI, 10, .inl d_reservedFor)), (dq15, .inl (cI, 10, .inl d_reservedTo)), (dq18, .inl (cI, 10, .inl d_pieceDual)), (dq19, .inl (cI, 10, .inl d_orderDual)), (dq20, .inl (cJ, 11264, .inr (.inl d_table)))] := hD
      refine lv_aload_n hx hb d_D_piece_49 rfl (lv_at hl 1 rfl) ?_
      refine va_get (D := (dC, dI)) (ci := 5) (v := .ref dq8) (C := R_D) (T := F_D) (N := 20) hx hb hts hk1 hown hK hP 0 rfl rfl 7 (by decide) hk2 (fun _ h9 => h9) rfl d_D_piece_50 ?_
      refine lv_iload hx hb d_D_piece_53 (lv_at hl 0 rfl) ?_
      refine lv_iconst (v := 1) hx hb d_D_piece_55 (by decide) ?_
      refine lv_iadd hx hb d_D_piece_56 ?_
      refine lv_iload_n hx hb d_D_piece_57 rfl (lv_at hl 3 rfl) ?_
      obtain ⟨h9, hm⟩ := gd hm
      refine va_iast hx hb hK hP hD hS 1 0 rfl rfl h9 d_D_piece_58 (fun H locs hP hD hS => ?_)
      have hP : va_P (dC, dI) classes [(dq, .inr (5, [.int u6, .int d_today, .int d_cut, .int d_aging, .int d_saleFrom, .int d_pieces, .int d_orders, .ref dq8, .ref dq9, .ref dq10, .ref dq11, .ref dq12, .ref dq13, .ref dq14, .ref dq15, .int d_ran, .int d_sum, .ref dq18, .ref dq19, .ref dq20])), (dq8, .inl (cI, 40, .inl (upd (upd d_piece (4 * d_pieces).toNatClampNeg x1) ((4 * d_pieces) + 1).toNatClampNeg x2))), (dq9, .inl (cI, 40, .inl d_order)), (dq10, .inl (cI, 10, .inl d_came)), (dq11, .inl (cI, 100, .inl d_worth)), (dq12, .inl (cZ, 10, .inl d_used)), (dq13, .inl (cI, 10, .inl d_usedBy)), (dq14, .inl (cI, 10, .inl d_reservedFor)), (dq15, .inl (cI, 10, .inl d_reservedTo)), (dq18, .inl (cI, 10, .inl d_pieceDual)), (dq19, .inl (cI, 10, .inl d_orderDual)), (dq20, .inl (cJ, 11264, .inr (.inl d_table)))] H := hP
      have hD : va_D A [(dq, .inr (5, [.int u6, .int d_today, .int d_cut, .int d_aging, .int d_saleFrom, .int d_pieces, .int d_orders, .ref dq8, .ref dq9, .ref dq10, .ref dq11, .ref dq12, .ref dq13, .ref dq14, .ref dq15, .int d_ran, .int d_sum, .ref dq18, .ref dq19, .ref dq20])), (dq8, .inl (cI, 40, .inl (upd (upd d_piece (4 * d_pieces).toNatClampNeg x1) ((4 * d_pieces) + 1).toNatClampNeg x2))), (dq9, .inl (cI, 40, .inl d_order)), (dq10, .inl (cI, 10, .inl d_came)), (dq11, .inl (cI, 100, .inl d_worth)), (dq12, .inl (cZ, 10, .inl d_used)), (dq13, .inl (cI, 10, .inl d_usedBy)), (dq14, .inl (cI, 10, .inl d_reservedFor)), (dq15, .inl (cI, 10, .inl d_reservedTo)), (dq18, .inl (cI, 10, .inl d_pieceDual)), (dq19, .inl (cI, 10, .inl d_orderDual)), (dq20, .inl (cJ, 11264, .inr (.inl d_table)))] := hD
      refine lv_aload_n hx hb d_D_piece_59 rfl (lv_at hl 1 rfl) ?_
      refine va_get (D := (dC, dI)) (ci := 5) (v := .ref dq8) (C := R_D) (T := F_D) (N := 20) hx hb hts hk1 hown hK hP 0 rfl rfl 7 (by decide) hk2 (fun _ h9 => h9) rfl d_D_piece_60 ?_
      refine lv_iload hx hb d_D_piece_63 (lv_at hl 0 rfl) ?_
      refine lv_iconst (v := 2) hx hb d_D_piece_65 (by decide) ?_
      refine lv_iadd hx hb d_D_piece_66 ?_
      refine lv_iload_n hx hb d_D_piece_67 rfl (lv_at hl 4 rfl) ?_
      obtain ⟨h9, hm⟩ := gd hm
      refine va_iast hx hb hK hP hD hS 1 0 rfl rfl h9 d_D_piece_68 (fun H locs hP hD hS => ?_)
      have hP : va_P (dC, dI) classes [(dq, .inr (5, [.int u6, .int d_today, .int d_cut, .int d_aging, .int d_saleFrom, .int d_pieces, .int d_orders, .ref dq8, .ref dq9, .ref dq10, .ref dq11, .ref dq12, .ref dq13, .ref dq14, .ref dq15, .int d_ran, .int d_sum, .ref dq18, .ref dq19, .ref dq20])), (dq8, .inl (cI, 40, .inl (upd (upd (upd d_piece (4 * d_pieces).toNatClampNeg x1) ((4 * d_pieces) + 1).toNatClampNeg x2) ((4 * d_pieces) + 2).toNatClampNeg x3))), (dq9, .inl (cI, 40, .inl d_order)), (dq10, .inl (cI, 10, .inl d_came)), (dq11, .inl (cI, 100, .inl d_worth)), (dq12, .inl (cZ, 10, .inl d_used)), (dq13, .inl (cI, 10, .inl d_usedBy)), (dq14, .inl (cI, 10, .inl d_reservedFor)), (dq15, .inl (cI, 10, .inl d_reservedTo)), (dq18, .inl (cI, 10, .inl d_pieceDual)), (dq19, .inl (cI, 10, .inl d_orderDual)), (dq20, .inl (cJ, 11264, .inr (.inl d_table)))] H := hP
      have hD : va_D A [(dq, .inr (5, [.int u6, .int d_today, .int d_cut, .int d_aging, .int d_saleFrom, .int d_pieces, .int d_orders, .ref dq8, .ref dq9, .ref dq10, .ref dq11, .ref dq12, .ref dq13, .ref dq14, .ref dq15, .int d_ran, .int d_sum, .ref dq18, .ref dq19, .ref dq20])), (dq8, .inl (cI, 40, .inl (upd (upd (upd d_piece (4 * d_pieces).toNatClampNeg x1) ((4 * d_pieces) + 1).toNatClampNeg x2) ((4 * d_pieces) + 2).toNatClampNeg x3))), (dq9, .inl (cI, 40, .inl d_order)), (dq10, .inl (cI, 10, .inl d_came)), (dq11, .inl (cI, 100, .inl d_worth)), (dq12, .inl (cZ, 10, .inl d_used)), (dq13, .inl (cI, 10, .inl d_usedBy)), (dq14, .inl (cI, 10, .inl d_reservedFor)), (dq15, .inl (cI, 10, .inl d_reservedTo)), (dq18, .inl (cI, 10, .inl d_pieceDual)), (dq19, .inl (cI, 10, .inl d_orderDual)), (dq20, .inl (cJ, 11264, .inr (.inl d_table)))] := hD
      refine lv_aload_n hx hb d_D_piece_69 rfl (lv_at hl 1 rfl) ?_
      refine va_get (D := (dC, dI)) (ci := 5) (v := .ref dq8) (C := R_D) (T := F_D) (N := 20) hx hb hts hk1 hown hK hP 0 rfl rfl 7 (by decide) hk2 (fun _ h9 => h9) rfl d_D_piece_70 ?_
      refine lv_iload hx hb d_D_piece_73 (lv_at hl 0 rfl) ?_
      refine lv_iconst (v := 3) hx hb d_D_piece_75 (by decide) ?_
      refine lv_iadd hx hb d_D_piece_76 ?_
      refine lv_iload hx hb d_D_piece_77 (lv_at hl 5 rfl) ?_
      obtain ⟨h9, hm⟩ := gd hm
      refine va_iast hx hb hK hP hD hS 1 0 rfl rfl h9 d_D_piece_79 (fun H locs hP hD hS => ?_)
      have hP : va_P (dC, dI) classes [(dq, .inr (5, [.int u6, .int d_today, .int d_cut, .int d_aging, .int d_saleFrom, .int d_pieces, .int d_orders, .ref dq8, .ref dq9, .ref dq10, .ref dq11, .ref dq12, .ref dq13, .ref dq14, .ref dq15, .int d_ran, .int d_sum, .ref dq18, .ref dq19, .ref dq20])), (dq8, .inl (cI, 40, .inl (upd (upd (upd (upd d_piece (4 * d_pieces).toNatClampNeg x1) ((4 * d_pieces) + 1).toNatClampNeg x2) ((4 * d_pieces) + 2).toNatClampNeg x3) ((4 * d_pieces) + 3).toNatClampNeg x4))), (dq9, .inl (cI, 40, .inl d_order)), (dq10, .inl (cI, 10, .inl d_came)), (dq11, .inl (cI, 100, .inl d_worth)), (dq12, .inl (cZ, 10, .inl d_used)), (dq13, .inl (cI, 10, .inl d_usedBy)), (dq14, .inl (cI, 10, .inl d_reservedFor)), (dq15, .inl (cI, 10, .inl d_reservedTo)), (dq18, .inl (cI, 10, .inl d_pieceDual)), (dq19, .inl (cI, 10, .inl d_orderDual)), (dq20, .inl (cJ, 11264, .inr (.inl d_table)))] H := hP
      have hD : va_D A [(dq, .inr (5, [.int u6, .int d_today, .int d_cut, .int d_aging, .int d_saleFrom, .int d_pieces, .int d_orders, .ref dq8, .ref dq9, .ref dq10, .ref dq11, .ref dq12, .ref dq13, .ref dq14, .ref dq15, .int d_ran, .int d_sum, .ref dq18, .ref dq19, .ref dq20])), (dq8, .inl (cI, 40, .inl (upd (upd (upd (upd d_piece (4 * d_pieces).toNatClampNeg x1) ((4 * d_pieces) + 1).toNatClampNeg x2) ((4 * d_pieces) + 2).toNatClampNeg x3) ((4 * d_pieces) + 3).toNatClampNeg x4))), (dq9, .inl (cI, 40, .inl d_order)), (dq10, .inl (cI, 10, .inl d_came)), (dq11, .inl (cI, 100, .inl d_worth)), (dq12, .inl (cZ, 10, .inl d_used)), (dq13, .inl (cI, 10, .inl d_usedBy)), (dq14, .inl (cI, 10, .inl d_reservedFor)), (dq15, .inl (cI, 10, .inl d_reservedTo)), (dq18, .inl (cI, 10, .inl d_pieceDual)), (dq19, .inl (cI, 10, .inl d_orderDual)), (dq20, .inl (cJ, 11264, .inr (.inl d_table)))] := hD
      refine lv_aload_n hx hb d_D_piece_80 rfl (lv_at hl 1 rfl) ?_
      refine va_get (D := (dC, dI)) (ci := 5) (v := .ref dq10) (C := R_D) (T := F_D) (N := 20) hx hb hts hk1 hown hK hP 0 rfl rfl 9 (by decide) hk3 (fun _ h9 => h9) rfl d_D_piece_81 ?_
      refine lv_aload_n hx hb d_D_piece_84 rfl (lv_at hl 1 rfl) ?_
      refine va_get (D := (dC, dI)) (ci := 5) (v := .int d_pieces) (C := R_D) (T := F_D) (N := 20) hx hb hts hk1 hown hK hP 0 rfl rfl 5 (by decide) hk0 (fun _ h9 => h9) rfl d_D_piece_85 ?_
      refine lv_aload_n hx hb d_D_piece_88 rfl (lv_at hl 1 rfl) ?_
      refine va_get (D := (dC, dI)) (ci := 5) (v := .int d_today) (C := R_D) (T := F_D) (N := 20) hx hb hts hk1 hown hK hP 0 rfl rfl 1 (by decide) hk4 (fun _ h9 => h9) rfl d_D_piece_89 ?_
      obtain ⟨h9, hm⟩ := gd hm
      refine va_iast hx hb hK hP hD hS 3 0 rfl rfl h9 d_D_piece_92 (fun H locs hP hD hS => ?_)
      have hP : va_P (dC, dI) classes [(dq, .inr (5, [.int u6, .int d_today, .int d_cut, .int d_aging, .int d_saleFrom, .int d_pieces, .int d_orders, .ref dq8, .ref dq9, .ref dq10, .ref dq11, .ref dq12, .ref dq13, .ref dq14, .ref dq15, .int d_ran, .int d_sum, .ref dq18, .ref dq19, .ref dq20])), (dq8, .inl (cI, 40, .inl (upd (upd (upd (upd d_piece (4 * d_pieces).toNatClampNeg x1) ((4 * d_pieces) + 1).toNatClampNeg x2) ((4 * d_pieces) + 2).toNatClampNeg x3) ((4 * d_pieces) + 3).toNatClampNeg x4))), (dq9, .inl (cI, 40, .inl d_order)), (dq10, .inl (cI, 10, .inl (upd d_came d_pieces.toNatClampNeg d_today))), (dq11, .inl (cI, 100, .inl d_worth)), (dq12, .inl (cZ, 10, .inl d_used)), (dq13, .inl (cI, 10, .inl d_usedBy)), (dq14, .inl (cI, 10, .inl d_reservedFor)), (dq15, .inl (cI, 10, .inl d_reservedTo)), (dq18, .inl (cI, 10, .inl d_pieceDual)), (dq19, .inl (cI, 10, .inl d_orderDual)), (dq20, .inl (cJ, 11264, .inr (.inl d_table)))] H := hP
      have hD : va_D A [(dq, .inr (5, [.int u6, .int d_today, .int d_cut, .int d_aging, .int d_saleFrom, .int d_pieces, .int d_orders, .ref dq8, .ref dq9, .ref dq10, .ref dq11, .ref dq12, .ref dq13, .ref dq14, .ref dq15, .int d_ran, .int d_sum, .ref dq18, .ref dq19, .ref dq20])), (dq8, .inl (cI, 40, .inl (upd (upd (upd (upd d_piece (4 * d_pieces).toNatClampNeg x1) ((4 * d_pieces) + 1).toNatClampNeg x2) ((4 * d_pieces) + 2).toNatClampNeg x3) ((4 * d_pieces) + 3).toNatClampNeg x4))), (dq9, .inl (cI, 40, .inl d_order)), (dq10, .inl (cI, 10, .inl (upd d_came d_pieces.toNatClampNeg d_today))), (dq11, .inl (cI, 100, .inl d_worth)), (dq12, .inl (cZ, 10, .inl d_used)), (dq13, .inl (cI, 10, .inl d_usedBy)), (dq14, .inl (cI, 10, .inl d_reservedFor)), (dq15, .inl (cI, 10, .inl d_reservedTo)), (dq18, .inl (cI, 10, .inl d_pieceDual)), (dq19, .inl (cI, 10, .inl d_orderDual)), (dq20, .inl (cJ, 11264, .inr (.inl d_table)))] := hD
      refine lv_aload_n hx hb d_D_piece_93 rfl (lv_at hl 1 rfl) ?_
      refine va_get (D := (dC, dI)) (ci := 5) (v := .ref dq14) (C := R_D) (T := F_D) (N := 20) hx hb hts hk1 hown hK hP 0 rfl rfl 13 (by decide) hk5 (fun _ h9 => h9) rfl d_D_piece_94 ?_
      refine lv_aload_n hx hb d_D_piece_97 rfl (lv_at hl 1 rfl) ?_
      refine va_get (D := (dC, dI)) (ci := 5) (v := .int d_pieces) (C := R_D) (T := F_D) (N := 20) hx hb hts hk1 hown hK hP 0 rfl rfl 5 (by decide) hk0 (fun _ h9 => h9) rfl d_D_piece_98 ?_
      refine lv_iconst (v := (-1)) hx hb d_D_piece_101 (by decide) ?_
      obtain ⟨h9, hm⟩ := gd hm
      refine va_iast hx hb hK hP hD hS 7 0 rfl rfl h9 d_D_piece_102 (fun H locs hP hD hS => ?_)
      have hP : va_P (dC, dI) classes [(dq, .inr (5, [.int u6, .int d_today, .int d_cut, .int d_aging, .int d_saleFrom, .int d_pieces, .int d_orders, .ref dq8, .ref dq9, .ref dq10, .ref dq11, .ref dq12, .ref dq13, .ref dq14, .ref dq15, .int d_ran, .int d_sum, .ref dq18, .ref dq19, .ref dq20])), (dq8, .inl (cI, 40, .inl (upd (upd (upd (upd d_piece (4 * d_pieces).toNatClampNeg x1) ((4 * d_pieces) + 1).toNatClampNeg x2) ((4 * d_pieces) + 2).toNatClampNeg x3) ((4 * d_pieces) + 3).toNatClampNeg x4))), (dq9, .inl (cI, 40, .inl d_order)), (dq10, .inl (cI, 10, .inl (upd d_came d_pieces.toNatClampNeg d_today))), (dq11, .inl (cI, 100, .inl d_worth)), (dq12, .inl (cZ, 10, .inl d_used)), (dq13, .inl (cI, 10, .inl d_usedBy)), (dq14, .inl (cI, 10, .inl (upd d_reservedFor d_pieces.toNatClampNeg (-1)))), (dq15, .inl (cI, 10, .inl d_reservedTo)), (dq18, .inl (cI, 10, .inl d_pieceDual)), (dq19, .inl (cI, 10, .inl d_orderDual)), (dq20, .inl (cJ, 11264, .inr (.inl d_table)))] H := hP
      have hD : va_D A [(dq, .inr (5, [.int u6, .int d_today, .int d_cut, .int d_aging, .int d_saleFrom, .int d_pieces, .int d_orders, .ref dq8, .ref dq9, .ref dq10, .ref dq11, .ref dq12, .ref dq13, .ref dq14, .ref dq15, .int d_ran, .int d_sum, .ref dq18, .ref dq19, .ref dq20])), (dq8, .inl (cI, 40, .inl (upd (upd (upd (upd d_piece (4 * d_pieces).toNatClampNeg x1) ((4 * d_pieces) + 1).toNatClampNeg x2) ((4 * d_pieces) + 2).toNatClampNeg x3) ((4 * d_pieces) + 3).toNatClampNeg x4))), (dq9, .inl (cI, 40, .inl d_order)), (dq10, .inl (cI, 10, .inl (upd d_came d_pieces.toNatClampNeg d_today))), (dq11, .inl (cI, 100, .inl d_worth)), (dq12, .inl (cZ, 10, .inl d_used)), (dq13, .inl (cI, 10, .inl d_usedBy)), (dq14, .inl (cI, 10, .inl (upd d_reservedFor d_pieces.toNatClampNeg (-1)))), (dq15, .inl (cI, 10, .inl d_reservedTo)), (dq18, .inl (cI, 10, .inl d_pieceDual)), (dq19, .inl (cI, 10, .inl d_orderDual)), (dq20, .inl (cJ, 11264, .inr (.inl d_table)))] := hD
      refine lv_aload_n hx hb d_D_piece_103 rfl (lv_at hl 1 rfl) ?_
      refine lv_iconst (v := 0) hx hb d_D_piece_104 (by decide) ?_
      refine va_put (D := (dC, dI)) (ci := 5) (v := .int 0) (ty := .boolean) (C := R_D) (T := F_D) (N := 20) hx hb hts hk1 t_D t_D_ok n_D hown hK hP hD hS 0 rfl rfl 15 (by decide) hk6 (fun _ h9 => h9) rfl (by decide +kernel) rfl rfl (Nat.le_of_ble_eq_true rfl) d_D_piece_105 (fun H locs hP hD hS => ?_)
      have hP : va_P (dC, dI) classes [(dq, .inr (5, [.int u6, .int d_today, .int d_cut, .int d_aging, .int d_saleFrom, .int d_pieces, .int d_orders, .ref dq8, .ref dq9, .ref dq10, .ref dq11, .ref dq12, .ref dq13, .ref dq14, .ref dq15, .int 0, .int d_sum, .ref dq18, .ref dq19, .ref dq20])), (dq8, .inl (cI, 40, .inl (upd (upd (upd (upd d_piece (4 * d_pieces).toNatClampNeg x1) ((4 * d_pieces) + 1).toNatClampNeg x2) ((4 * d_pieces) + 2).toNatClampNeg x3) ((4 * d_pieces) + 3).toNatClampNeg x4))), (dq9, .inl (cI, 40, .inl d_order)), (dq10, .inl (cI, 10, .inl (upd d_came d_pieces.toNatClampNeg d_today))), (dq11, .inl (cI, 100, .inl d_worth)), (dq12, .inl (cZ, 10, .inl d_used)), (dq13, .inl (cI, 10, .inl d_usedBy)), (dq14, .inl (cI, 10, .inl (upd d_reservedFor d_pieces.toNatClampNeg (-1)))), (dq15, .inl (cI, 10, .inl d_reservedTo)), (dq18, .inl (cI, 10, .inl d_pieceDual)), (dq19, .inl (cI, 10, .inl d_orderDual)), (dq20, .inl (cJ, 11264, .inr (.inl d_table)))] H := hP
      have hD : va_D A [(dq, .inr (5, [.int u6, .int d_today, .int d_cut, .int d_aging, .int d_saleFrom, .int d_pieces, .int d_orders, .ref dq8, .ref dq9, .ref dq10, .ref dq11, .ref dq12, .ref dq13, .ref dq14, .ref dq15, .int 0, .int d_sum, .ref dq18, .ref dq19, .ref dq20])), (dq8, .inl (cI, 40, .inl (upd (upd (upd (upd d_piece (4 * d_pieces).toNatClampNeg x1) ((4 * d_pieces) + 1).toNatClampNeg x2) ((4 * d_pieces) + 2).toNatClampNeg x3) ((4 * d_pieces) + 3).toNatClampNeg x4))), (dq9, .inl (cI, 40, .inl d_order)), (dq10, .inl (cI, 10, .inl (upd d_came d_pieces.toNatClampNeg d_today))), (dq11, .inl (cI, 100, .inl d_worth)), (dq12, .inl (cZ, 10, .inl d_used)), (dq13, .inl (cI, 10, .inl d_usedBy)), (dq14, .inl (cI, 10, .inl (upd d_reservedFor d_pieces.toNatClampNeg (-1)))), (dq15, .inl (cI, 10, .inl d_reservedTo)), (dq18, .inl (cI, 10, .inl d_pieceDual)), (dq19, .inl (cI, 10, .inl d_orderDual)), (dq20, .inl (cJ, 11264, .inr (.inl d_table)))] := hD
      refine lv_aload_n hx hb d_D_piece_108 rfl (lv_at hl 1 rfl) ?_
      refine lv_dup hx hb d_D_piece_109 rfl ?_
      refine va_get (D := (dC, dI)) (ci := 5) (v := .int d_pieces) (C := R_D) (T := F_D) (N := 20) hx hb hts hk1 hown hK hP 0 rfl rfl 5 (by decide) hk0 (fun _ h9 => h9) rfl d_D_piece_110 ?_
      refine lv_iconst (v := 1) hx hb d_D_piece_113 (by decide) ?_
      refine lv_iadd hx hb d_D_piece_114 ?_
      refine va_put (D := (dC, dI)) (ci := 5) (v := .int (d_pieces + 1)) (ty := .int) (C := R_D) (T := F_D) (N := 20) hx hb hts hk1 t_D t_D_ok n_D hown hK hP hD hS 0 rfl rfl 5 (by decide) hk0 (fun _ h9 => h9) rfl (by decide +kernel) rfl rfl (Nat.le_of_ble_eq_true rfl) d_D_piece_115 (fun H locs hP hD hS => ?_)
      have hP : va_P (dC, dI) classes [(dq, .inr (5, [.int u6, .int d_today, .int d_cut, .int d_aging, .int d_saleFrom, .int (d_pieces + 1), .int d_orders, .ref dq8, .ref dq9, .ref dq10, .ref dq11, .ref dq12, .ref dq13, .ref dq14, .ref dq15, .int 0, .int d_sum, .ref dq18, .ref dq19, .ref dq20])), (dq8, .inl (cI, 40, .inl (upd (upd (upd (upd d_piece (4 * d_pieces).toNatClampNeg x1) ((4 * d_pieces) + 1).toNatClampNeg x2) ((4 * d_pieces) + 2).toNatClampNeg x3) ((4 * d_pieces) + 3).toNatClampNeg x4))), (dq9, .inl (cI, 40, .inl d_order)), (dq10, .inl (cI, 10, .inl (upd d_came d_pieces.toNatClampNeg d_today))), (dq11, .inl (cI, 100, .inl d_worth)), (dq12, .inl (cZ, 10, .inl d_used)), (dq13, .inl (cI, 10, .inl d_usedBy)), (dq14, .inl (cI, 10, .inl (upd d_reservedFor d_pieces.toNatClampNeg (-1)))), (dq15, .inl (cI, 10, .inl d_reservedTo)), (dq18, .inl (cI, 10, .inl d_pieceDual)), (dq19, .inl (cI, 10, .inl d_orderDual)), (dq20, .inl (cJ, 11264, .inr (.inl d_table)))] H := hP
      have hD : va_D A [(dq, .inr (5, [.int u6, .int d_today, .int d_cut, .int d_aging, .int d_saleFrom, .int (d_pieces + 1), .int d_orders, .ref dq8, .ref dq9, .ref dq10, .ref dq11, .ref dq12, .ref dq13, .ref dq14, .ref dq15, .int 0, .int d_sum, .ref dq18, .ref dq19, .ref dq20])), (dq8, .inl (cI, 40, .inl (upd (upd (upd (upd d_piece (4 * d_pieces).toNatClampNeg x1) ((4 * d_pieces) + 1).toNatClampNeg x2) ((4 * d_pieces) + 2).toNatClampNeg x3) ((4 * d_pieces) + 3).toNatClampNeg x4))), (dq9, .inl (cI, 40, .inl d_order)), (dq10, .inl (cI, 10, .inl (upd d_came d_pieces.toNatClampNeg d_today))), (dq11, .inl (cI, 100, .inl d_worth)), (dq12, .inl (cZ, 10, .inl d_used)), (dq13, .inl (cI, 10, .inl d_usedBy)), (dq14, .inl (cI, 10, .inl (upd d_reservedFor d_pieces.toNatClampNeg (-1)))), (dq15, .inl (cI, 10, .inl d_reservedTo)), (dq18, .inl (cI, 10, .inl d_pieceDual)), (dq19, .inl (cI, 10, .inl d_orderDual)), (dq20, .inl (cJ, 11264, .inr (.inl d_table)))] := hD
      refine lv_aload_n hx hb d_D_piece_118 rfl (lv_at hl 1 rfl) ?_
      refine va_get (D := (dC, dI)) (ci := 5) (v := .int (d_pieces + 1)) (C := R_D) (T := F_D) (N := 20) hx hb hts hk1 hown hK hP 0 rfl rfl 5 (by decide) hk0 (fun _ h9 => h9) rfl d_D_piece_119 ?_
      refine lv_iconst (v := 1) hx hb d_D_piece_122 (by decide) ?_
      refine lv_isub hx hb d_D_piece_123 ?_
      cases hm
      refine W.widen (k := 0) (n := 0) (Nat.le_of_ble_eq_true rfl) (Nat.le_of_ble_eq_true rfl) ?_
      exact W.iret hx hb hr (fun t ht hW => ⟨⟨_, (), rfl, rfl, by rw [ht]; exact hP, va_K.moved hW.alike hK, hD⟩, hS.F ht⟩) hS.2.2 d_D_piece_124
    · replace hm := if_t c9 hm
      refine lv_iconst (v := 0) hx hb d_D_piece_31 (by decide) ?_
      cases hm
      refine W.widen (k := 0) (n := 0) (Nat.le_of_ble_eq_true rfl) (Nat.le_of_ble_eq_true rfl) ?_
      exact W.iret hx hb hr (fun t ht hW => ⟨⟨_, (), rfl, rfl, by rw [ht]; exact hP, va_K.moved hW.alike hK, hD⟩, hS.F ht⟩) hS.2.2 d_D_piece_32

def w_D_order : List Cond := .code y_D_order b_D_order 6 (some .int) :: W0
theorem q_D_order : y_D_order.cls = R_D ∧ y_D_order.cls ≠ "java/lang/invoke/MethodHandle" ∧ y_D_order.cls ≠ "java/lang/invoke/VarHandle" ∧ (parseMethodDescriptor y_D_order.desc).map (fun d => d.parameters.length) = some 4 := by decide +kernel
def m_D_order (d_orders : Int32) (d_order : Nat → Int32) (d_usedBy : Nat → Int32) (d_ran : Int32) (x1 : Int32) (x2 : Int32) (x3 : Int32) (x4 : Int32) : Option (Int32 × Int32 × Int32 × (Nat → Int32) × (Nat → Int32) × Int32) :=
  ((m_D_areSizes x1 x2 x3 x4).bind fun r1 =>
  (if 10 ≤ d_orders then
    ((m_D_goes r1 0 1 1).bind fun (r2, u3) =>
      (if r2 = 0 then
        some (0, u3, d_orders, d_order, d_usedBy, d_ran)
       else
        (if (4 * d_orders) < 0 ∨ 40 ≤ (4 * d_orders).toNatClampNeg then none else
        (if ((4 * d_orders) + 1) < 0 ∨ 40 ≤ ((4 * d_orders) + 1).toNatClampNeg then none else
        (if ((4 * d_orders) + 2) < 0 ∨ 40 ≤ ((4 * d_orders) + 2).toNatClampNeg then none else
        (if ((4 * d_orders) + 3) < 0 ∨ 40 ≤ ((4 * d_orders) + 3).toNatClampNeg then none else
        (if d_orders < 0 ∨ 10 ≤ d_orders.toNatClampNeg then none else
        some (((d_orders + 1) - 1), u3, (d_orders + 1), (upd (upd (upd (upd d_order (4 * d_orders).toNatClampNeg x1) ((4 * d_orders) + 1).toNatClampNeg x2) ((4 * d_orders) + 2).toNatClampNeg x3) ((4 * d_orders) + 3).toNatClampNeg x4), (upd d_usedBy d_orders.toNatClampNeg (-1)), 0))))))))
   else
    ((m_D_goes r1 1 1 1).bind fun (r5, u6) =>
      (if r5 = 0 then
        some (0, u6, d_orders, d_order, d_usedBy, d_ran)
       else
        (if (4 * d_orders) < 0 ∨ 40 ≤ (4 * d_orders).toNatClampNeg then none else
        (if ((4 * d_orders) + 1) < 0 ∨ 40 ≤ ((4 * d_orders) + 1).toNatClampNeg then none else
        (if ((4 * d_orders) + 2) < 0 ∨ 40 ≤ ((4 * d_orders) + 2).toNatClampNeg then none else
        (if ((4 * d_orders) + 3) < 0 ∨ 40 ≤ ((4 * d_orders) + 3).toNatClampNeg then none else
        (if d_orders < 0 ∨ 10 ≤ d_orders.toNatClampNeg then none else
        some (((d_orders + 1) - 1), u6, (d_orders + 1), (upd (upd (upd (upd d_order (4 * d_orders).toNatClampNeg x1) ((4 * d_orders) + 1).toNatClampNeg x2) ((4 * d_orders) + 2).toNatClampNeg x3) ((4 * d_orders) + 3).toNatClampNeg x4), (upd d_usedBy d_orders.toNatClampNeg (-1)), 0))))))))))
set_option maxHeartbeats 4000000 in
set_option maxRecDepth 100000 in
theorem c_D_order (l : Launch) (dC : Nat → ClassId) (dI : Nat → Nat → Nat) (cI cZ cJ : ClassId) (dq dq8 dq9 dq10 dq11 dq12 dq13 dq14 dq15 dq18 dq19 dq20 : Nat) (sz : Nat) (d_thrown : Int32) (d_today : Int32) (d_cut : Int32) (d_aging : Int32) (d_saleFrom : Int32) (d_pieces : Int32) (d_orders : Int32) (d_piece : Nat → Int32) (d_order : Nat → Int32) (d_came : Nat → Int32) (d_worth : Nat → Int32) (d_used : Nat → Int32) (d_usedBy : Nat → Int32) (d_reservedFor : Nat → Int32) (d_reservedTo : Nat → Int32) (d_ran : Int32) (d_sum : Int32) (d_pieceDual : Nat → Int32) (d_orderDual : Nat → Int32) (d_table : Nat → Int64) (x1 : Int32) (x2 : Int32) (x3 : Int32) (x4 : Int32) (N : Nat) (res : Int32 × Int32 × Int32 × (Nat → Int32) × (Nat → Int32) × Int32) (hm : m_D_order d_orders d_order d_usedBy d_ran x1 x2 x3 x4 = some res) : Met l y_D_order w_D_order ({ frames := 2, cells := 0, slots := 0, locals := 45 } : Room) (va_Pc [.ref dq, .int x1, .int x2, .int x3, .int x4] (fun U => U.heap.size = sz ∧ va_P (dC, dI) classes [(dq, .inr (5, [.int d_thrown, .int d_today, .int d_cut, .int d_aging, .int d_saleFrom, .int d_pieces, .int d_orders, .ref dq8, .ref dq9, .ref dq10, .ref dq11, .ref dq12, .ref dq13, .ref dq14, .ref dq15, .int d_ran, .int d_sum, .ref dq18, .ref dq19, .ref dq20])), (dq8, .inl (cI, 40, .inl d_piece)), (dq9, .inl (cI, 40, .inl d_order)), (dq10, .inl (cI, 10, .inl d_came)), (dq11, .inl (cI, 100, .inl d_worth)), (dq12, .inl (cZ, 10, .inl d_used)), (dq13, .inl (cI, 10, .inl d_usedBy)), (dq14, .inl (cI, 10, .inl d_reservedFor)), (dq15, .inl (cI, 10, .inl d_reservedTo)), (dq18, .inl (cI, 10, .inl d_pieceDual)), (dq19, .inl (cI, 10, .inl d_orderDual)), (dq20, .inl (cJ, 11264, .inr (.inl d_table)))] U.heap ∧ va_K (dC, dI) classes [(cI, .int), (cZ, .boolean), (cJ, .long)] U ∧ va_D (fun _ => True) [(dq, .inr (5, [.int d_thrown, .int d_today, .int d_cut, .int d_aging, .int d_saleFrom, .int d_pieces, .int d_orders, .ref dq8, .ref dq9, .ref dq10, .ref dq11, .ref dq12, .ref dq13, .ref dq14, .ref dq15, .int d_ran, .int d_sum, .ref dq18, .ref dq19, .ref dq20])), (dq8, .inl (cI, 40, .inl d_piece)), (dq9, .inl (cI, 40, .inl d_order)), (dq10, .inl (cI, 10, .inl d_came)), (dq11, .inl (cI, 100, .inl d_worth)), (dq12, .inl (cZ, 10, .inl d_used)), (dq13, .inl (cI, 10, .inl d_usedBy)), (dq14, .inl (cI, 10, .inl d_reservedFor)), (dq15, .inl (cI, 10, .inl d_reservedTo)), (dq18, .inl (cI, 10, .inl d_pieceDual)), (dq19, .inl (cI, 10, .inl d_orderDual)), (dq20, .inl (cJ, 11264, .inr (.inl d_table)))] ∧ nw U)) (va_Qi (fun (x : Int32) (_ : Unit) => res.1 = x) (fun _ t => va_P (dC, dI) classes [(dq, .inr (5, [.int res.2.1, .int d_today, .int d_cut, .int d_aging, .int d_saleFrom, .int d_pieces, .int res.2.2.1, .ref dq8, .ref dq9, .ref dq10, .ref dq11, .ref dq12, .ref dq13, .ref dq14, .ref dq15, .int res.2.2.2.2.2, .int d_sum, .ref dq18, .ref dq19, .ref dq20])), (dq8, .inl (cI, 40, .inl d_piece)), (dq9, .inl (cI, 40, .inl res.2.2.2.1)), (dq10, .inl (cI, 10, .inl d_came)), (dq11, .inl (cI, 100, .inl d_worth)), (dq12, .inl (cZ, 10, .inl d_used)), (dq13, .inl (cI, 10, .inl res.2.2.2.2.1)), (dq14, .inl (cI, 10, .inl d_reservedFor)), (dq15, .inl (cI, 10, .inl d_reservedTo)), (dq18, .inl (cI, 10, .inl d_pieceDual)), (dq19, .inl (cI, 10, .inl d_orderDual)), (dq20, .inl (cJ, 11264, .inr (.inl d_table)))] t.heap ∧ va_K (dC, dI) classes [(cI, .int), (cZ, .boolean), (cJ, .long)] t ∧ va_D (va_A [(dq, .inr (5, [.int d_thrown, .int d_today, .int d_cut, .int d_aging, .int d_saleFrom, .int d_pieces, .int d_orders, .ref dq8, .ref dq9, .ref dq10, .ref dq11, .ref dq12, .ref dq13, .ref dq14, .ref dq15, .int d_ran, .int d_sum, .ref dq18, .ref dq19, .ref dq20])), (dq8, .inl (cI, 40, .inl d_piece)), (dq9, .inl (cI, 40, .inl d_order)), (dq10, .inl (cI, 10, .inl d_came)), (dq11, .inl (cI, 100, .inl d_worth)), (dq12, .inl (cZ, 10, .inl d_used)), (dq13, .inl (cI, 10, .inl d_usedBy)), (dq14, .inl (cI, 10, .inl d_reservedFor)), (dq15, .inl (cI, 10, .inl d_reservedTo)), (dq18, .inl (cI, 10, .inl d_pieceDual)), (dq19, .inl (cI, 10, .inl d_orderDual)), (dq20, .inl (cJ, 11264, .inr (.inl d_table)))] sz) [(dq, .inr (5, [.int res.2.1, .int d_today, .int d_cut, .int d_aging, .int d_saleFrom, .int d_pieces, .int res.2.2.1, .ref dq8, .ref dq9, .ref dq10, .ref dq11, .ref dq12, .ref dq13, .ref dq14, .ref dq15, .int res.2.2.2.2.2, .int d_sum, .ref dq18, .ref dq19, .ref dq20])), (dq8, .inl (cI, 40, .inl d_piece)), (dq9, .inl (cI, 40, .inl res.2.2.2.1)), (dq10, .inl (cI, 10, .inl d_came)), (dq11, .inl (cI, 100, .inl d_worth)), (dq12, .inl (cZ, 10, .inl d_used)), (dq13, .inl (cI, 10, .inl res.2.2.2.2.1)), (dq14, .inl (cI, 10, .inl d_reservedFor)), (dq15, .inl (cI, 10, .inl d_reservedTo)), (dq18, .inl (cI, 10, .inl d_pieceDual)), (dq19, .inl (cI, 10, .inl d_orderDual)), (dq20, .inl (cJ, 11264, .inr (.inl d_table)))]) (va_A [(dq, .inr (5, [.int d_thrown, .int d_today, .int d_cut, .int d_aging, .int d_saleFrom, .int d_pieces, .int d_orders, .ref dq8, .ref dq9, .ref dq10, .ref dq11, .ref dq12, .ref dq13, .ref dq14, .ref dq15, .int d_ran, .int d_sum, .ref dq18, .ref dq19, .ref dq20])), (dq8, .inl (cI, 40, .inl d_piece)), (dq9, .inl (cI, 40, .inl d_order)), (dq10, .inl (cI, 10, .inl d_came)), (dq11, .inl (cI, 100, .inl d_worth)), (dq12, .inl (cZ, 10, .inl d_used)), (dq13, .inl (cI, 10, .inl d_usedBy)), (dq14, .inl (cI, 10, .inl d_reservedFor)), (dq15, .inl (cI, 10, .inl d_reservedTo)), (dq18, .inl (cI, 10, .inl d_pieceDual)), (dq19, .inl (cI, 10, .inl d_orderDual)), (dq20, .inl (cJ, 11264, .inr (.inl d_table)))] sz)) 0 0 (va_A [(dq, .inr (5, [.int d_thrown, .int d_today, .int d_cut, .int d_aging, .int d_saleFrom, .int d_pieces, .int d_orders, .ref dq8, .ref dq9, .ref dq10, .ref dq11, .ref dq12, .ref dq13, .ref dq14, .ref dq15, .int d_ran, .int d_sum, .ref dq18, .ref dq19, .ref dq20])), (dq8, .inl (cI, 40, .inl d_piece)), (dq9, .inl (cI, 40, .inl d_order)), (dq10, .inl (cI, 10, .inl d_came)), (dq11, .inl (cI, 100, .inl d_worth)), (dq12, .inl (cZ, 10, .inl d_used)), (dq13, .inl (cI, 10, .inl d_usedBy)), (dq14, .inl (cI, 10, .inl d_reservedFor)), (dq15, .inl (cI, 10, .inl d_reservedTo)), (dq18, .inl (cI, 10, .inl d_pieceDual)), (dq19, .inl (cI, 10, .inl d_orderDual)), (dq20, .inl (cJ, 11264, .inr (.inl d_table)))] sz) := by
  unfold m_D_order at hm
  refine Met.ofW (cc := b_D_order) (maxL := 6) (ret := (some .int)) (by decide) rfl ?_
  intro p e s m args below meth c s₁ B hml hv
  obtain ⟨rfl, hsz, hP, hK, hD0, hN⟩ := hv
  have hx := B.exec
  have hb := B.bytes
  have hr := B.returns
  have hts := atoms_spec (ws := w_D_order) B.pre
  have hown : s.vm.findClass R_D = some m.cls := findClass_of_methodNamed B.named
  have hlocks := B.notSynchronized
  subst hsz
  have hD := hD0.self (sz := s.heap.size)
  generalize hAe : va_A [(dq, .inr (5, [.int d_thrown, .int d_today, .int d_cut, .int d_aging, .int d_saleFrom, .int d_pieces, .int d_orders, .ref dq8, .ref dq9, .ref dq10, .ref dq11, .ref dq12, .ref dq13, .ref dq14, .ref dq15, .int d_ran, .int d_sum, .ref dq18, .ref dq19, .ref dq20])), (dq8, .inl (cI, 40, .inl d_piece)), (dq9, .inl (cI, 40, .inl d_order)), (dq10, .inl (cI, 10, .inl d_came)), (dq11, .inl (cI, 100, .inl d_worth)), (dq12, .inl (cZ, 10, .inl d_used)), (dq13, .inl (cI, 10, .inl d_usedBy)), (dq14, .inl (cI, 10, .inl d_reservedFor)), (dq15, .inl (cI, 10, .inl d_reservedTo)), (dq18, .inl (cI, 10, .inl d_pieceDual)), (dq19, .inl (cI, 10, .inl d_orderDual)), (dq20, .inl (cJ, 11264, .inr (.inl d_table)))] s.heap.size = A at hD ⊢
  have hA : ∀ q : Nat, s.heap.size ≤ q → A q := fun q h => by rw [← hAe]; exact Or.inr h
  have hS : va_S A s.heap s.heap [] := va_S.rf
  have hk0 := hts (.fieldLink R_D 59 "SurplusMatchModel" "orders" "I") (List.mem_cons_of_mem _ (w0 599 rfl))
  have hk1 : ∀ w ∈ w_D, w ∈ w_D_order := fun w h => List.mem_cons_of_mem _ (i_D w h)
  have hk2 := hts (.fieldLink R_D 17 "SurplusMatchModel" "order" "[I") (List.mem_cons_of_mem _ (w0 601 rfl))
  have hk3 := hts (.fieldLink R_D 30 "SurplusMatchModel" "usedBy" "[I") (List.mem_cons_of_mem _ (w0 605 rfl))
  have hk4 := hts (.fieldLink R_D 73 "SurplusMatchModel" "ran" "Z") (List.mem_cons_of_mem _ (w0 608 rfl))
  have hl := lv_entry ([.ref dq, .int x1, .int x2, .int x3, .int x4]) (n := 6) (Nat.le_of_ble_eq_true rfl)
  rw [lg_entry_eq]
  generalize (lg_sl ([.ref dq, .int x1, .int x2, .int x3, .int x4]) ++ List.replicate (6 - (lg_sl ([.ref dq, .int x1, .int x2, .int x3, .int x4])).length) Slot.unset).toArray = ls at hl ⊢
  have hl : lv_has ls 6 [(0, .ref dq), (1, .int x1), (2, .int x2), (3, .int x3), (4, .int x4)] := hl
  refine lv_aload_n hx hb d_D_order_0 rfl (lv_at hl 0 rfl) ?_
  refine lv_iload_n hx hb d_D_order_1 rfl (lv_at hl 1 rfl) ?_
  refine lv_iload_n hx hb d_D_order_2 rfl (lv_at hl 2 rfl) ?_
  refine lv_iload_n hx hb d_D_order_3 rfl (lv_at hl 3 rfl) ?_
  refine lv_iload hx hb d_D_order_4 (lv_at hl 4 rfl) ?_
  obtain ⟨r1, hc, hm⟩ := bd hm
  try dsimp only at hm
  refine vp_callSi (W.runS (As := [.int x1, .int x2, .int x3, .int x4]) (rest := [.ref dq]) ⟨hx, hb, hml, hown, hts⟩ (c_D_areSizes l dC dI cI x1 x2 x3 x4 N r1 hc) (cwS 4 hts (gS (w0 664 rfl) (w0 665 rfl) (w0 33 rfl) (w0 666 rfl)) rfl rfl rfl q_D_areSizes ⟨Nat.le_of_ble_eq_true rfl, Nat.le_of_ble_eq_true rfl⟩) ro_pre0 rfl rfl hl.1 rfl (lv_room (Nat.le_of_ble_eq_true rfl)) d_D_order_6 ⟨Nat.le_of_ble_eq_true rfl, Nat.le_of_ble_eq_true rfl⟩) (fun r9 hr9 => ?_)
  subst hr9
  refine lv_aload_n hx hb d_D_order_9 rfl (lv_at hl 0 rfl) ?_
  refine va_get (D := (dC, dI)) (ci := 5) (v := .int d_orders) (C := R_D) (T := F_D) (N := 20) hx hb hts hk1 hown hK hP 0 rfl rfl 6 (by decide) hk0 (fun _ h9 => h9) rfl d_D_order_10 ?_
  refine lv_bipush (v := 10) hx hb d_D_order_13 (by decide) ?_
  refine lv_icmp_ge (tgt := 22) hx hb d_D_order_15 (by decide) (fun c9 => ?_) (fun c9 => ?_)
  · replace hm := if_t c9 hm
    refine lv_iconst (v := 0) hx hb d_D_order_22 (by decide) ?_
    refine lv_iconst (v := 1) hx hb d_D_order_23 (by decide) ?_
    refine lv_iconst (v := 1) hx hb d_D_order_24 (by decide) ?_
    obtain ⟨⟨r2, u3⟩, hc, hm⟩ := bd hm
    try dsimp only at hm
    have hPc := hP.sub (ws' := [(dq, .inr (5, [.int d_thrown, .int d_today, .int d_cut, .int d_aging, .int d_saleFrom, .int d_pieces, .int d_orders, .ref dq8, .ref dq9, .ref dq10, .ref dq11, .ref dq12, .ref dq13, .ref dq14, .ref dq15, .int d_ran, .int d_sum, .ref dq18, .ref dq19, .ref dq20])), (dq8, .inl (cI, 40, .inl d_piece)), (dq9, .inl (cI, 40, .inl d_order)), (dq10, .inl (cI, 10, .inl d_came)), (dq11, .inl (cI, 100, .inl d_worth)), (dq12, .inl (cZ, 10, .inl d_used)), (dq13, .inl (cI, 10, .inl d_usedBy)), (dq14, .inl (cI, 10, .inl d_reservedFor)), (dq15, .inl (cI, 10, .inl d_reservedTo)), (dq18, .inl (cI, 10, .inl d_pieceDual)), (dq19, .inl (cI, 10, .inl d_orderDual)), (dq20, .inl (cJ, 11264, .inr (.inl d_table)))]) [0, 1, 2, 3, 4, 5, 6, 7, 8, 9, 10, 11] rfl
    have hDc := hD.sub (ws' := [(dq, .inr (5, [.int d_thrown, .int d_today, .int d_cut, .int d_aging, .int d_saleFrom, .int d_pieces, .int d_orders, .ref dq8, .ref dq9, .ref dq10, .ref dq11, .ref dq12, .ref dq13, .ref dq14, .ref dq15, .int d_ran, .int d_sum, .ref dq18, .ref dq19, .ref dq20])), (dq8, .inl (cI, 40, .inl d_piece)), (dq9, .inl (cI, 40, .inl d_order)), (dq10, .inl (cI, 10, .inl d_came)), (dq11, .inl (cI, 100, .inl d_worth)), (dq12, .inl (cZ, 10, .inl d_used)), (dq13, .inl (cI, 10, .inl d_usedBy)), (dq14, .inl (cI, 10, .inl d_reservedFor)), (dq15, .inl (cI, 10, .inl d_reservedTo)), (dq18, .inl (cI, 10, .inl d_pieceDual)), (dq19, .inl (cI, 10, .inl d_orderDual)), (dq20, .inl (cJ, 11264, .inr (.inl d_table)))]) [0, 1, 2, 3, 4, 5, 6, 7, 8, 9, 10, 11] (by decide) rfl
    have hFc := va_free (wc := [(dq, .inr (5, [.int d_thrown, .int d_today, .int d_cut, .int d_aging, .int d_saleFrom, .int d_pieces, .int d_orders, .ref dq8, .ref dq9, .ref dq10, .ref dq11, .ref dq12, .ref dq13, .ref dq14, .ref dq15, .int d_ran, .int d_sum, .ref dq18, .ref dq19, .ref dq20])), (dq8, .inl (cI, 40, .inl d_piece)), (dq9, .inl (cI, 40, .inl d_order)), (dq10, .inl (cI, 10, .inl d_came)), (dq11, .inl (cI, 100, .inl d_worth)), (dq12, .inl (cZ, 10, .inl d_used)), (dq13, .inl (cI, 10, .inl d_usedBy)), (dq14, .inl (cI, 10, .inl d_reservedFor)), (dq15, .inl (cI, 10, .inl d_reservedTo)), (dq18, .inl (cI, 10, .inl d_pieceDual)), (dq19, .inl (cI, 10, .inl d_orderDual)), (dq20, .inl (cJ, 11264, .inr (.inl d_table)))]) hD hS hA [0, 1, 2, 3, 4, 5, 6, 7, 8, 9, 10, 11] rfl
    refine va_calli (va_runV (As := [.int r1, .int 0, .int 1, .int 1]) (rest := []) ⟨hx, hb, hml, hown, hts⟩ (c_D_goes l dC dI cI cZ cJ dq dq8 dq9 dq10 dq11 dq12 dq13 dq14 dq15 dq18 dq19 dq20 s.heap.size d_thrown d_today d_cut d_aging d_saleFrom d_pieces d_orders d_piece d_order d_came d_worth d_used d_usedBy d_reservedFor d_reservedTo d_ran d_sum d_pieceDual d_orderDual d_table r1 0 1 1 N (r2, u3) hc) (cwV 4 hts (gV (w0 670 rfl) (w0 671 rfl) (w0 18 rfl) (w0 33 rfl) (w0 672 rfl)) rfl rfl rfl q_D_goes ⟨Nat.le_of_ble_eq_true rfl, Nat.le_of_ble_eq_true rfl⟩) (wr_preV hK hPc hDc hN 5 0 (R_D, F_D, 20) rfl rfl) rfl rfl hl.1 rfl (lv_room (Nat.le_of_ble_eq_true rfl)) d_D_order_25 ⟨Nat.le_of_ble_eq_true rfl, Nat.le_of_ble_eq_true rfl⟩) hS (fun q _ h => hFc q h) hFc (fun r9 u t H1 locs ht hvm hw hB hz1 hk1 hS => ?_)
    subst hw
    obtain ⟨hP1, hK1, hD1⟩ := hB
    rw [ht] at hP1
    obtain ⟨hP, hD⟩ := va_join (wr := []) (w1 := [(dq, .inr (5, [.int u3, .int d_today, .int d_cut, .int d_aging, .int d_saleFrom, .int d_pieces, .int d_orders, .ref dq8, .ref dq9, .ref dq10, .ref dq11, .ref dq12, .ref dq13, .ref dq14, .ref dq15, .int d_ran, .int d_sum, .ref dq18, .ref dq19, .ref dq20])), (dq8, .inl (cI, 40, .inl d_piece)), (dq9, .inl (cI, 40, .inl d_order)), (dq10, .inl (cI, 10, .inl d_came)), (dq11, .inl (cI, 100, .inl d_worth)), (dq12, .inl (cZ, 10, .inl d_used)), (dq13, .inl (cI, 10, .inl d_usedBy)), (dq14, .inl (cI, 10, .inl d_reservedFor)), (dq15, .inl (cI, 10, .inl d_reservedTo)), (dq18, .inl (cI, 10, .inl d_pieceDual)), (dq19, .inl (cI, 10, .inl d_orderDual)), (dq20, .inl (cJ, 11264, .inr (.inl d_table)))]) hP hD [0, 1, 2, 3, 4, 5, 6, 7, 8, 9, 10, 11] [] rfl rfl (by decide) (by decide) hk1 hFc hP1 hD1
    generalize H1 = H at hP hS ⊢
    have hP : va_P (dC, dI) classes [(dq, .inr (5, [.int u3, .int d_today, .int d_cut, .int d_aging, .int d_saleFrom, .int d_pieces, .int d_orders, .ref dq8, .ref dq9, .ref dq10, .ref dq11, .ref dq12, .ref dq13, .ref dq14, .ref dq15, .int d_ran, .int d_sum, .ref dq18, .ref dq19, .ref dq20])), (dq8, .inl (cI, 40, .inl d_piece)), (dq9, .inl (cI, 40, .inl d_order)), (dq10, .inl (cI, 10, .inl d_came)), (dq11, .inl (cI, 100, .inl d_worth)), (dq12, .inl (cZ, 10, .inl d_used)), (dq13, .inl (cI, 10, .inl d_usedBy)), (dq14, .inl (cI, 10, .inl d_reservedFor)), (dq15, .inl (cI, 10, .inl d_reservedTo)), (dq18, .inl (cI, 10, .inl d_pieceDual)), (dq19, .inl (cI, 10, .inl d_orderDual)), (dq20, .inl (cJ, 11264, .inr (.inl d_table)))] H := hP
    have hD : va_D A [(dq, .inr (5, [.int u3, .int d_today, .int d_cut, .int d_aging, .int d_saleFrom, .int d_pieces, .int d_orders, .ref dq8, .ref dq9, .ref dq10, .ref dq11, .ref dq12, .ref dq13, .ref dq14, .ref dq15, .int d_ran, .int d_sum, .ref dq18, .ref dq19, .ref dq20])), (dq8, .inl (cI, 40, .inl d_piece)), (dq9, .inl (cI, 40, .inl d_order)), (dq10, .inl (cI, 10, .inl d_came)), (dq11, .inl (cI, 100, .inl d_worth)), (dq12, .inl (cZ, 10, .inl d_used)), (dq13, .inl (cI, 10, .inl d_usedBy)), (dq14, .inl (cI, 10, .inl d_reservedFor)), (dq15, .inl (cI, 10, .inl d_reservedTo)), (dq18, .inl (cI, 10, .inl d_pieceDual)), (dq19, .inl (cI, 10, .inl d_orderDual)), (dq20, .inl (cJ, 11264, .inr (.inl d_table)))] := hD
    clear hP1 hD1 hPc hDc hFc hk1 hz1
    refine lv_if_ne (tgt := 33) hx hb d_D_order_28 (by decide) (fun c9 => ?_) (fun c9 => ?_)
    · replace hm := if_f c9 hm
      refine lv_iconst (v := 4) hx hb d_D_order_33 (by decide) ?_
      refine lv_aload_n hx hb d_D_order_34 rfl (lv_at hl 0 rfl) ?_
      refine va_get (D := (dC, dI)) (ci := 5) (v := .int d_orders) (C := R_D) (T := F_D) (N := 20) hx hb hts hk1 hown hK hP 0 rfl rfl 6 (by decide) hk0 (fun _ h9 => h9) rfl d_D_order_35 ?_
      refine lv_imul hx hb d_D_order_38 ?_
      refine lv_istore (lv' := [(5, .int (4 * d_orders)), (0, .ref dq), (1, .int x1), (2, .int x2), (3, .int x3), (4, .int x4)]) hx hb d_D_order_39 hl (by decide) rfl (fun ls hl => ?_)
      refine lv_aload_n hx hb d_D_order_41 rfl (lv_at hl 1 rfl) ?_
      refine va_get (D := (dC, dI)) (ci := 5) (v := .ref dq9) (C := R_D) (T := F_D) (N := 20) hx hb hts hk1 hown hK hP 0 rfl rfl 8 (by decide) hk2 (fun _ h9 => h9) rfl d_D_order_42 ?_
      refine lv_iload hx hb d_D_order_45 (lv_at hl 0 rfl) ?_
      refine lv_iload_n hx hb d_D_order_47 rfl (lv_at hl 2 rfl) ?_
      obtain ⟨h9, hm⟩ := gd hm
      refine va_iast hx hb hK hP hD hS 2 0 rfl rfl h9 d_D_order_48 (fun H locs hP hD hS => ?_)
      have hP : va_P (dC, dI) classes [(dq, .inr (5, [.int u3, .int d_today, .int d_cut, .int d_aging, .int d_saleFrom, .int d_pieces, .int d_orders, .ref dq8, .ref dq9, .ref dq10, .ref dq11, .ref dq12, .ref dq13, .ref dq14, .ref dq15, .int d_ran, .int d_sum, .ref dq18, .ref dq19, .ref dq20])), (dq8, .inl (cI, 40, .inl d_piece)), (dq9, .inl (cI, 40, .inl (upd d_order (4 * d_orders).toNatClampNeg x1))), (dq10, .inl (cI, 10, .inl d_came)), (dq11, .inl (cI, 100, .inl d_worth)), (dq12, .inl (cZ, 10, .inl d_used)), (dq13, .inl (cI, 10, .inl d_usedBy)), (dq14, .inl (cI, 10, .inl d_reservedFor)), (dq15, .inl (cI, 10, .inl d_reservedTo)), (dq18, .inl (cI, 10, .inl d_pieceDual)), (dq19, .inl (cI, 10, .inl d_orderDual)), (dq20, .inl (cJ, 11264, .inr (.inl d_table)))] H := hP
      have hD : va_D A [(dq, .inr (5, [.int u3, .int d_today, .int d_cut, .int d_aging, .int d_saleFrom, .int d_pieces, .int d_orders, .ref dq8, .ref dq9, .ref dq10, .ref dq11, .ref dq12, .ref dq13, .ref dq14, .ref dq15, .int d_ran, .int d_sum, .ref dq18, .ref dq19, .ref dq20])), (dq8, .inl (cI, 40, .inl d_piece)), (dq9, .inl (cI, 40, .inl (upd d_order (4 * d_orders).toNatClampNeg x1))), (dq10, .inl (cI, 10, .inl d_came)), (dq11, .inl (cI, 100, .inl d_worth)), (dq12, .inl (cZ, 10, .inl d_used)), (dq13, .inl (cI, 10, .inl d_usedBy)), (dq14, .inl (cI, 10, .inl d_reservedFor)), (dq15, .inl (cI, 10, .inl d_reservedTo)), (dq18, .inl (cI, 10, .inl d_pieceDual)), (dq19, .inl (cI, 10, .inl d_orderDual)), (dq20, .inl (cJ, 11264, .inr (.inl d_table)))] := hD
      refine lv_aload_n hx hb d_D_order_49 rfl (lv_at hl 1 rfl) ?_
      refine va_get (D := (dC, dI)) (ci := 5) (v := .ref dq9) (C := R_D) (T := F_D) (N := 20) hx hb hts hk1 hown hK hP 0 rfl rfl 8 (by decide) hk2 (fun _ h9 => h9) rfl d_D_order_50 ?_
      refine lv_iload hx hb d_D_order_53 (lv_at hl 0 rfl) ?_
      refine lv_iconst (v := 1) hx hb d_D_order_55 (by decide) ?_
      refine lv_iadd hx hb d_D_order_56 ?_
      refine lv_iload_n hx hb d_D_order_57 rfl (lv_at hl 3 rfl) ?_
      obtain ⟨h9, hm⟩ := gd hm
      refine va_iast hx hb hK hP hD hS 2 0 rfl rfl h9 d_D_order_58 (fun H locs hP hD hS => ?_)
      have hP : va_P (dC, dI) classes [(dq, .inr (5, [.int u3, .int d_today, .int d_cut, .int d_aging, .int d_saleFrom, .int d_pieces, .int d_orders, .ref dq8, .ref dq9, .ref dq10, .ref dq11, .ref dq12, .ref dq13, .ref dq14, .ref dq15, .int d_ran, .int d_sum, .ref dq18, .ref dq19, .ref dq20])), (dq8, .inl (cI, 40, .inl d_piece)), (dq9, .inl (cI, 40, .inl (upd (upd d_order (4 * d_orders).toNatClampNeg x1) ((4 * d_orders) + 1).toNatClampNeg x2))), (dq10, .inl (cI, 10, .inl d_came)), (dq11, .inl (cI, 100, .inl d_worth)), (dq12, .inl (cZ, 10, .inl d_used)), (dq13, .inl (cI, 10, .inl d_usedBy)), (dq14, .inl (cI, 10, .inl d_reservedFor)), (dq15, .inl (cI, 10, .inl d_reservedTo)), (dq18, .inl (cI, 10, .inl d_pieceDual)), (dq19, .inl (cI, 10, .inl d_orderDual)), (dq20, .inl (cJ, 11264, .inr (.inl d_table)))] H := hP
      have hD : va_D A [(dq, .inr (5, [.int u3, .int d_today, .int d_cut, .int d_aging, .int d_saleFrom, .int d_pieces, .int d_orders, .ref dq8, .ref dq9, .ref dq10, .ref dq11, .ref dq12, .ref dq13, .ref dq14, .ref dq15, .int d_ran, .int d_sum, .ref dq18, .ref dq19, .ref dq20])), (dq8, .inl (cI, 40, .inl d_piece)), (dq9, .inl (cI, 40, .inl (upd (upd d_order (4 * d_orders).toNatClampNeg x1) ((4 * d_orders) + 1).toNatClampNeg x2))), (dq10, .inl (cI, 10, .inl d_came)), (dq11, .inl (cI, 100, .inl d_worth)), (dq12, .inl (cZ, 10, .inl d_used)), (dq13, .inl (cI, 10, .inl d_usedBy)), (dq14, .inl (cI, 10, .inl d_reservedFor)), (dq15, .inl (cI, 10, .inl d_reservedTo)), (dq18, .inl (cI, 10, .inl d_pieceDual)), (dq19, .inl (cI, 10, .inl d_orderDual)), (dq20, .inl (cJ, 11264, .inr (.inl d_table)))] := hD
      refine lv_aload_n hx hb d_D_order_59 rfl (lv_at hl 1 rfl) ?_
      refine va_get (D := (dC, dI)) (ci := 5) (v := .ref dq9) (C := R_D) (T := F_D) (N := 20) hx hb hts hk1 hown hK hP 0 rfl rfl 8 (by decide) hk2 (fun _ h9 => h9) rfl d_D_order_60 ?_
      refine lv_iload hx hb d_D_order_63 (lv_at hl 0 rfl) ?_
      refine lv_iconst (v := 2) hx hb d_D_order_65 (by decide) ?_
      refine lv_iadd hx hb d_D_order_66 ?_
      refine lv_iload_n hx hb d_D_order_67 rfl (lv_at hl 4 rfl) ?_
      obtain ⟨h9, hm⟩ := gd hm
      refine va_iast hx hb hK hP hD hS 2 0 rfl rfl h9 d_D_order_68 (fun H locs hP hD hS => ?_)
      have hP : va_P (dC, dI) classes [(dq, .inr (5, [.int u3, .int d_today, .int d_cut, .int d_aging, .int d_saleFrom, .int d_pieces, .int d_orders, .ref dq8, .ref dq9, .ref dq10, .ref dq11, .ref dq12, .ref dq13, .ref dq14, .ref dq15, .int d_ran, .int d_sum, .ref dq18, .ref dq19, .ref dq20])), (dq8, .inl (cI, 40, .inl d_piece)), (dq9, .inl (cI, 40, .inl (upd (upd (upd d_order (4 * d_orders).toNatClampNeg x1) ((4 * d_orders) + 1).toNatClampNeg x2) ((4 * d_orders) + 2).toNatClampNeg x3))), (dq10, .inl (cI, 10, .inl d_came)), (dq11, .inl (cI, 100, .inl d_worth)), (dq12, .inl (cZ, 10, .inl d_used)), (dq13, .inl (cI, 10, .inl d_usedBy)), (dq14, .inl (cI, 10, .inl d_reservedFor)), (dq15, .inl (cI, 10, .inl d_reservedTo)), (dq18, .inl (cI, 10, .inl d_pieceDual)), (dq19, .inl (cI, 10, .inl d_orderDual)), (dq20, .inl (cJ, 11264, .inr (.inl d_table)))] H := hP
      have hD : va_D A [(dq, .inr (5, [.int u3, .int d_today, .int d_cut, .int d_aging, .int d_saleFrom, .int d_pieces, .int d_orders, .ref dq8, .ref dq9, .ref dq10, .ref dq11, .ref dq12, .ref dq13, .ref dq14, .ref dq15, .int d_ran, .int d_sum, .ref dq18, .ref dq19, .ref dq20])), (dq8, .inl (cI, 40, .inl d_piece)), (dq9, .inl (cI, 40, .inl (upd (upd (upd d_order (4 * d_orders).toNatClampNeg x1) ((4 * d_orders) + 1).toNatClampNeg x2) ((4 * d_orders) + 2).toNatClampNeg x3))), (dq10, .inl (cI, 10, .inl d_came)), (dq11, .inl (cI, 100, .inl d_worth)), (dq12, .inl (cZ, 10, .inl d_used)), (dq13, .inl (cI, 10, .inl d_usedBy)), (dq14, .inl (cI, 10, .inl d_reservedFor)), (dq15, .inl (cI, 10, .inl d_reservedTo)), (dq18, .inl (cI, 10, .inl d_pieceDual)), (dq19, .inl (cI, 10, .inl d_orderDual)), (dq20, .inl (cJ, 11264, .inr (.inl d_table)))] := hD
      refine lv_aload_n hx hb d_D_order_69 rfl (lv_at hl 1 rfl) ?_
      refine va_get (D := (dC, dI)) (ci := 5) (v := .ref dq9) (C := R_D) (T := F_D) (N := 20) hx hb hts hk1 hown hK hP 0 rfl rfl 8 (by decide) hk2 (fun _ h9 => h9) rfl d_D_order_70 ?_
      refine lv_iload hx hb d_D_order_73 (lv_at hl 0 rfl) ?_
      refine lv_iconst (v := 3) hx hb d_D_order_75 (by decide) ?_
      refine lv_iadd hx hb d_D_order_76 ?_
      refine lv_iload hx hb d_D_order_77 (lv_at hl 5 rfl) ?_
      obtain ⟨h9, hm⟩ := gd hm
      refine va_iast hx hb hK hP hD hS 2 0 rfl rfl h9 d_D_order_79 (fun H locs hP hD hS => ?_)
      have hP : va_P (dC, dI) classes [(dq, .inr (5, [.int u3, .int d_today, .int d_cut, .int d_aging, .int d_saleFrom, .int d_pieces, .int d_orders, .ref dq8, .ref dq9, .ref dq10, .ref dq11, .ref dq12, .ref dq13, .ref dq14, .ref dq15, .int d_ran, .int d_sum, .ref dq18, .ref dq19, .ref dq20])), (dq8, .inl (cI, 40, .inl d_piece)), (dq9, .inl (cI, 40, .inl (upd (upd (upd (upd d_order (4 * d_orders).toNatClampNeg x1) ((4 * d_orders) + 1).toNatClampNeg x2) ((4 * d_orders) + 2).toNatClampNeg x3) ((4 * d_orders) + 3).toNatClampNeg x4))), (dq10, .inl (cI, 10, .inl d_came)), (dq11, .inl (cI, 100, .inl d_worth)), (dq12, .inl (cZ, 10, .inl d_used)), (dq13, .inl (cI, 10, .inl d_usedBy)), (dq14, .inl (cI, 10, .inl d_reservedFor)), (dq15, .inl (cI, 10, .inl d_reservedTo)), (dq18, .inl (cI, 10, .inl d_pieceDual)), (dq19, .inl (cI, 10, .inl d_orderDual)), (dq20, .inl (cJ, 11264, .inr (.inl d_table)))] H := hP
      have hD : va_D A [(dq, .inr (5, [.int u3, .int d_today, .int d_cut, .int d_aging, .int d_saleFrom, .int d_pieces, .int d_orders, .ref dq8, .ref dq9, .ref dq10, .ref dq11, .ref dq12, .ref dq13, .ref dq14, .ref dq15, .int d_ran, .int d_sum, .ref dq18, .ref dq19, .ref dq20])), (dq8, .inl (cI, 40, .inl d_piece)), (dq9, .inl (cI, 40, .inl (upd (upd (upd (upd d_order (4 * d_orders).toNatClampNeg x1) ((4 * d_orders) + 1).toNatClampNeg x2) ((4 * d_orders) + 2).toNatClampNeg x3) ((4 * d_orders) + 3).toNatClampNeg x4))), (dq10, .inl (cI, 10, .inl d_came)), (dq11, .inl (cI, 100, .inl d_worth)), (dq12, .inl (cZ, 10, .inl d_used)), (dq13, .inl (cI, 10, .inl d_usedBy)), (dq14, .inl (cI, 10, .inl d_reservedFor)), (dq15, .inl (cI, 10, .inl d_reservedTo)), (dq18, .inl (cI, 10, .inl d_pieceDual)), (dq19, .inl (cI, 10, .inl d_orderDual)), (dq20, .inl (cJ, 11264, .inr (.inl d_table)))] := hD
      refine lv_aload_n hx hb d_D_order_80 rfl (lv_at hl 1 rfl) ?_
      refine va_get (D := (dC, dI)) (ci := 5) (v := .ref dq13) (C := R_D) (T := F_D) (N := 20) hx hb hts hk1 hown hK hP 0 rfl rfl 12 (by decide) hk3 (fun _ h9 => h9) rfl d_D_order_81 ?_
      refine lv_aload_n hx hb d_D_order_84 rfl (lv_at hl 1 rfl) ?_
      refine va_get (D := (dC, dI)) (ci := 5) (v := .int d_orders) (C := R_D) (T := F_D) (N := 20) hx hb hts hk1 hown hK hP 0 rfl rfl 6 (by decide) hk0 (fun _ h9 => h9) rfl d_D_order_85 ?_
      refine lv_iconst (v := (-1)) hx hb d_D_order_88 (by decide) ?_
      obtain ⟨h9, hm⟩ := gd hm
      refine va_iast hx hb hK hP hD hS 6 0 rfl rfl h9 d_D_order_89 (fun H locs hP hD hS => ?_)
      have hP : va_P (dC, dI) classes [(dq, .inr (5, [.int u3, .int d_today, .int d_cut, .int d_aging, .int d_saleFrom, .int d_pieces, .int d_orders, .ref dq8, .ref dq9, .ref dq10, .ref dq11, .ref dq12, .ref dq13, .ref dq14, .ref dq15, .int d_ran, .int d_sum, .ref dq18, .ref dq19, .ref dq20])), (dq8, .inl (cI, 40, .inl d_piece)), (dq9, .inl (cI, 40, .inl (upd (upd (upd (upd d_order (4 * d_orders).toNatClampNeg x1) ((4 * d_orders) + 1).toNatClampNeg x2) ((4 * d_orders) + 2).toNatClampNeg x3) ((4 * d_orders) + 3).toNatClampNeg x4))), (dq10, .inl (cI, 10, .inl d_came)), (dq11, .inl (cI, 100, .inl d_worth)), (dq12, .inl (cZ, 10, .inl d_used)), (dq13, .inl (cI, 10, .inl (upd d_usedBy d_orders.toNatClampNeg (-1)))), (dq14, .inl (cI, 10, .inl d_reservedFor)), (dq15, .inl (cI, 10, .inl d_reservedTo)), (dq18, .inl (cI, 10, .inl d_pieceDual)), (dq19, .inl (cI, 10, .inl d_orderDual)), (dq20, .inl (cJ, 11264, .inr (.inl d_table)))] H := hP
      have hD : va_D A [(dq, .inr (5, [.int u3, .int d_today, .int d_cut, .int d_aging, .int d_saleFrom, .int d_pieces, .int d_orders, .ref dq8, .ref dq9, .ref dq10, .ref dq11, .ref dq12, .ref dq13, .ref dq14, .ref dq15, .int d_ran, .int d_sum, .ref dq18, .ref dq19, .ref dq20])), (dq8, .inl (cI, 40, .inl d_piece)), (dq9, .inl (cI, 40, .inl (upd (upd (upd (upd d_order (4 * d_orders).toNatClampNeg x1) ((4 * d_orders) + 1).toNatClampNeg x2) ((4 * d_orders) + 2).toNatClampNeg x3) ((4 * d_orders) + 3).toNatClampNeg x4))), (dq10, .inl (cI, 10, .inl d_came)), (dq11, .inl (cI, 100, .inl d_worth)), (dq12, .inl (cZ, 10, .inl d_used)), (dq13, .inl (cI, 10, .inl (upd d_usedBy d_orders.toNatClampNeg (-1)))), (dq14, .inl (cI, 10, .inl d_reservedFor)), (dq15, .inl (cI, 10, .inl d_reservedTo)), (dq18, .inl (cI, 10, .inl d_pieceDual)), (dq19, .inl (cI, 10, .inl d_orderDual)), (dq20, .inl (cJ, 11264, .inr (.inl d_table)))] := hD
      refine lv_aload_n hx hb d_D_order_90 rfl (lv_at hl 1 rfl) ?_
      refine lv_iconst (v := 0) hx hb d_D_order_91 (by decide) ?_
      refine va_put (D := (dC, dI)) (ci := 5) (v := .int 0) (ty := .boolean) (C := R_D) (T := F_D) (N := 20) hx hb hts hk1 t_D t_D_ok n_D hown hK hP hD hS 0 rfl rfl 15 (by decide) hk4 (fun _ h9 => h9) rfl (by decide +kernel) rfl rfl (Nat.le_of_ble_eq_true rfl) d_D_order_92 (fun H locs hP hD hS => ?_)
      have hP : va_P (dC, dI) classes [(dq, .inr (5, [.int u3, .int d_today, .int d_cut, .int d_aging, .int d_saleFrom, .int d_pieces, .int d_orders, .ref dq8, .ref dq9, .ref dq10, .ref dq11, .ref dq12, .ref dq13, .ref dq14, .ref dq15, .int 0, .int d_sum, .ref dq18, .ref dq19, .ref dq20])), (dq8, .inl (cI, 40, .inl d_piece)), (dq9, .inl (cI, 40, .inl (upd (upd (upd (upd d_order (4 * d_orders).toNatClampNeg x1) ((4 * d_orders) + 1).toNatClampNeg x2) ((4 * d_orders) + 2).toNatClampNeg x3) ((4 * d_orders) + 3).toNatClampNeg x4))), (dq10, .inl (cI, 10, .inl d_came)), (dq11, .inl (cI, 100, .inl d_worth)), (dq12, .inl (cZ, 10, .inl d_used)), (dq13, .inl (cI, 10, .inl (upd d_usedBy d_orders.toNatClampNeg (-1)))), (dq14, .inl (cI, 10, .inl d_reservedFor)), (dq15, .inl (cI, 10, .inl d_reservedTo)), (dq18, .inl (cI, 10, .inl d_pieceDual)), (dq19, .inl (cI, 10, .inl d_orderDual)), (dq20, .inl (cJ, 11264, .inr (.inl d_table)))] H := hP
      have hD : va_D A [(dq, .inr (5, [.int u3, .int d_today, .int d_cut, .int d_aging, .int d_saleFrom, .int d_pieces, .int d_orders, .ref dq8, .ref dq9, .ref dq10, .ref dq11, .ref dq12, .ref dq13, .ref dq14, .ref dq15, .int 0, .int d_sum, .ref dq18, .ref dq19, .ref dq20])), (dq8, .inl (cI, 40, .inl d_piece)), (dq9, .inl (cI, 40, .inl (upd (upd (upd (upd d_order (4 * d_orders).toNatClampNeg x1) ((4 * d_orders) + 1).toNatClampNeg x2) ((4 * d_orders) + 2).toNatClampNeg x3) ((4 * d_orders) + 3).toNatClampNeg x4))), (dq10, .inl (cI, 10, .inl d_came)), (dq11, .inl (cI, 100, .inl d_worth)), (dq12, .inl (cZ, 10, .inl d_used)), (dq13, .inl (cI, 10, .inl (upd d_usedBy d_orders.toNatClampNeg (-1)))), (dq14, .inl (cI, 10, .inl d_reservedFor)), (dq15, .inl (cI, 10, .inl d_reservedTo)), (dq18, .inl (cI, 10, .inl d_pieceDual)), (dq19, .inl (cI, 10, .inl d_orderDual)), (dq20, .inl (cJ, 11264, .inr (.inl d_table)))] := hD
      refine lv_aload_n hx hb d_D_order_95 rfl (lv_at hl 1 rfl) ?_
      refine lv_dup hx hb d_D_order_96 rfl ?_
      refine va_get (D := (dC, dI)) (ci := 5) (v := .int d_orders) (C := R_D) (T := F_D) (N := 20) hx hb hts hk1 hown hK hP 0 rfl rfl 6 (by decide) hk0 (fun _ h9 => h9) rfl d_D_order_97 ?_
      refine lv_iconst (v := 1) hx hb d_D_order_100 (by decide) ?_
      refine lv_iadd hx hb d_D_order_101 ?_
      refine va_put (D := (dC, dI)) (ci := 5) (v := .int (d_orders + 1)) (ty := .int) (C := R_D) (T := F_D) (N := 20) hx hb hts hk1 t_D t_D_ok n_D hown hK hP hD hS 0 rfl rfl 6 (by decide) hk0 (fun _ h9 => h9) rfl (by decide +kernel) rfl rfl (Nat.le_of_ble_eq_true rfl) d_D_order_102 (fun H locs hP hD hS => ?_)
      have hP : va_P (dC, dI) classes [(dq, .inr (5, [.int u3, .int d_today, .int d_cut, .int d_aging, .int d_saleFrom, .int d_pieces, .int (d_orders + 1), .ref dq8, .ref dq9, .ref dq10, .ref dq11, .ref dq12, .ref dq13, .ref dq14, .ref dq15, .int 0, .int d_sum, .ref dq18, .ref dq19, .ref dq20])), (dq8, .inl (cI, 40, .inl d_piece)), (dq9, .inl (cI, 40, .inl (upd (upd (upd (upd d_order (4 * d_orders).toNatClampNeg x1) ((4 * d_orders) + 1).toNatClampNeg x2) ((4 * d_orders) + 2).toNatClampNeg x3) ((4 * d_orders) + 3).toNatClampNeg x4))), (dq10, .inl (cI, 10, .inl d_came)), (dq11, .inl (cI, 100, .inl d_worth)), (dq12, .inl (cZ, 10, .inl d_used)), (dq13, .inl (cI, 10, .inl (upd d_usedBy d_orders.toNatClampNeg (-1)))), (dq14, .inl (cI, 10, .inl d_reservedFor)), (dq15, .inl (cI, 10, .inl d_reservedTo)), (dq18, .inl (cI, 10, .inl d_pieceDual)), (dq19, .inl (cI, 10, .inl d_orderDual)), (dq20, .inl (cJ, 11264, .inr (.inl d_table)))] H := hP
      have hD : va_D A [(dq, .inr (5, [.int u3, .int d_today, .int d_cut, .int d_aging, .int d_saleFrom, .int d_pieces, .int (d_orders + 1), .ref dq8, .ref dq9, .ref dq10, .ref dq11, .ref dq12, .ref dq13, .ref dq14, .ref dq15, .int 0, .int d_sum, .ref dq18, .ref dq19, .ref dq20])), (dq8, .inl (cI, 40, .inl d_piece)), (dq9, .inl (cI, 40, .inl (upd (upd (upd (upd d_order (4 * d_orders).toNatClampNeg x1) ((4 * d_orders) + 1).toNatClampNeg x2) ((4 * d_orders) + 2).toNatClampNeg x3) ((4 * d_orders) + 3).toNatClampNeg x4))), (dq10, .inl (cI, 10, .inl d_came)), (dq11, .inl (cI, 100, .inl d_worth)), (dq12, .inl (cZ, 10, .inl d_used)), (dq13, .inl (cI, 10, .inl (upd d_usedBy d_orders.toNatClampNeg (-1)))), (dq14, .inl (cI, 10, .inl d_reservedFor)), (dq15, .inl (cI, 10, .inl d_reservedTo)), (dq18, .inl (cI, 10, .inl d_pieceDual)), (dq19, .inl (cI, 10, .inl d_orderDual)), (dq20, .inl (cJ, 11264, .inr (.inl d_table)))] := hD
      refine lv_aload_n hx hb d_D_order_105 rfl (lv_at hl 1 rfl) ?_
      refine va_get (D := (dC, dI)) (ci := 5) (v := .int (d_orders + 1)) (C := R_D) (T := F_D) (N := 20) hx hb hts hk1 hown hK hP 0 rfl rfl 6 (by decide) hk0 (fun _ h9 => h9) rfl d_D_order_106 ?_
      refine lv_iconst (v := 1) hx hb d_D_order_109 (by decide) ?_
      refine lv_isub hx hb d_D_order_110 ?_
      cases hm
      refine W.widen (k := 0) (n := 0) (Nat.le_of_ble_eq_true rfl) (Nat.le_of_ble_eq_true rfl) ?_
      exact W.iret hx hb hr (fun t ht hW => ⟨⟨_, (), rfl, rfl, by rw [ht]; exact hP, va_K.moved hW.alike hK, hD⟩, hS.F ht⟩) hS.2.2 d_D_order_111
    · replace hm := if_t c9 hm
      refine lv_iconst (v := 0) hx hb d_D_order_31 (by decide) ?_
      cases hm
      refine W.widen (k := 0) (n := 0) (Nat.le_of_ble_eq_true rfl) (Nat.le_of_ble_eq_true rfl) ?_
      exact W.iret hx hb hr (fun t ht hW => ⟨⟨_, (), rfl, rfl, by rw [ht]; exact hP, va_K.moved hW.alike hK, hD⟩, hS.F ht⟩) hS.2.2 d_D_order_32
  · replace hm := if_f c9 hm
    refine lv_iconst (v := 1) hx hb d_D_order_18 (by decide) ?_
    refine lv_goto (tgt := 23) hx hb d_D_order_19 (by decide) ?_
    refine lv_iconst (v := 1) hx hb d_D_order_23 (by decide) ?_
    refine lv_iconst (v := 1) hx hb d_D_order_24 (by decide) ?_
    obtain ⟨⟨r5, u6⟩, hc, hm⟩ := bd hm
    try dsimp only at hm
    have hPc := hP.sub (ws' := [(dq, .inr (5, [.int d_thrown, .int d_today, .int d_cut, .int d_aging, .int d_saleFrom, .int d_pieces, .int d_orders, .ref dq8, .ref dq9, .ref dq10, .ref dq11, .ref dq12, .ref dq13, .ref dq14, .ref dq15, .int d_ran, .int d_sum, .ref dq18, .ref dq19, .ref dq20])), (dq8, .inl (cI, 40, .inl d_piece)), (dq9, .inl (cI, 40, .inl d_order)), (dq10, .inl (cI, 10, .inl d_came)), (dq11, .inl (cI, 100, .inl d_worth)), (dq12, .inl (cZ, 10, .inl d_used)), (dq13, .inl (cI, 10, .inl d_usedBy)), (dq14, .inl (cI, 10, .inl d_reservedFor)), (dq15, .inl (cI, 10, .inl d_reservedTo)), (dq18, .inl (cI, 10, .inl d_pieceDual)), (dq19, .inl (cI, 10, .inl d_orderDual)), (dq20, .inl (cJ, 11264, .inr (.inl d_table)))]) [0, 1, 2, 3, 4, 5, 6, 7, 8, 9, 10, 11] rfl
    have hDc := hD.sub (ws' := [(dq, .inr (5, [.int d_thrown, .int d_today, .int d_cut, .int d_aging, .int d_saleFrom, .int d_pieces, .int d_orders, .ref dq8, .ref dq9, .ref dq10, .ref dq11, .ref dq12, .ref dq13, .ref dq14, .ref dq15, .int d_ran, .int d_sum, .ref dq18, .ref dq19, .ref dq20])), (dq8, .inl (cI, 40, .inl d_piece)), (dq9, .inl (cI, 40, .inl d_order)), (dq10, .inl (cI, 10, .inl d_came)), (dq11, .inl (cI, 100, .inl d_worth)), (dq12, .inl (cZ, 10, .inl d_used)), (dq13, .inl (cI, 10, .inl d_usedBy)), (dq14, .inl (cI, 10, .inl d_reservedFor)), (dq15, .inl (cI, 10, .inl d_reservedTo)), (dq18, .inl (cI, 10, .inl d_pieceDual)), (dq19, .inl (cI, 10, .inl d_orderDual)), (dq20, .inl (cJ, 11264, .inr (.inl d_table)))]) [0, 1, 2, 3, 4, 5, 6, 7, 8, 9, 10, 11] (by decide) rfl
    have hFc := va_free (wc := [(dq, .inr (5, [.int d_thrown, .int d_today, .int d_cut, .int d_aging, .int d_saleFrom, .int d_pieces, .int d_orders, .ref dq8, .ref dq9, .ref dq10, .ref dq11, .ref dq12, .ref dq13, .ref dq14, .ref dq15, .int d_ran, .int d_sum, .ref dq18, .ref dq19, .ref dq20])), (dq8, .inl (cI, 40, .inl d_piece)), (dq9, .inl (cI, 40, .inl d_order)), (dq10, .inl (cI, 10, .inl d_came)), (dq11, .inl (cI, 100, .inl d_worth)), (dq12, .inl (cZ, 10, .inl d_used)), (dq13, .inl (cI, 10, .inl d_usedBy)), (dq14, .inl (cI, 10, .inl d_reservedFor)), (dq15, .inl (cI, 10, .inl d_reservedTo)), (dq18, .inl (cI, 10, .inl d_pieceDual)), (dq19, .inl (cI, 10, .inl d_orderDual)), (dq20, .inl (cJ, 11264, .inr (.inl d_table)))]) hD hS hA [0, 1, 2, 3, 4, 5, 6, 7, 8, 9, 10, 11] rfl
    refine va_calli (va_runV (As := [.int r1, .int 1, .int 1, .int 1]) (rest := []) ⟨hx, hb, hml, hown, hts⟩ (c_D_goes l dC dI cI cZ cJ dq dq8 dq9 dq10 dq11 dq12 dq13 dq14 dq15 dq18 dq19 dq20 s.heap.size d_thrown d_today d_cut d_aging d_saleFrom d_pieces d_orders d_piece d_order d_came d_worth d_used d_usedBy d_reservedFor d_reservedTo d_ran d_sum d_pieceDual d_orderDual d_table r1 1 1 1 N (r5, u6) hc) (cwV 4 hts (gV (w0 670 rfl) (w0 671 rfl) (w0 18 rfl) (w0 33 rfl) (w0 672 rfl)) rfl rfl rfl q_D_goes ⟨Nat.le_of_ble_eq_true rfl, Nat.le_of_ble_eq_true rfl⟩) (wr_preV hK hPc hDc hN 5 0 (R_D, F_D, 20) rfl rfl) rfl rfl hl.1 rfl (lv_room (Nat.le_of_ble_eq_true rfl)) d_D_order_25 ⟨Nat.le_of_ble_eq_true rfl, Nat.le_of_ble_eq_true rfl⟩) hS (fun q _ h => hFc q h) hFc (fun r9 u t H1 locs ht hvm hw hB hz1 hk1 hS => ?_)
    subst hw
    obtain ⟨hP1, hK1, hD1⟩ := hB
    rw [ht] at hP1
    obtain ⟨hP, hD⟩ := va_join (wr := []) (w1 := [(dq, .inr (5, [.int u6, .int d_today, .int d_cut, .int d_aging, .int d_saleFrom, .int d_pieces, .int d_orders, .ref dq8, .ref dq9, .ref dq10, .ref dq11, .ref dq12, .ref dq13, .ref dq14, .ref dq15, .int d_ran, .int d_sum, .ref dq18, .ref dq19, .ref dq20])), (dq8, .inl (cI, 40, .inl d_piece)), (dq9, .inl (cI, 40, .inl d_order)), (dq10, .inl (cI, 10, .inl d_came)), (dq11, .inl (cI, 100, .inl d_worth)), (dq12, .inl (cZ, 10, .inl d_used)), (dq13, .inl (cI, 10, .inl d_usedBy)), (dq14, .inl (cI, 10, .inl d_reservedFor)), (dq15, .inl (cI, 10, .inl d_reservedTo)), (dq18, .inl (cI, 10, .inl d_pieceDual)), (dq19, .inl (cI, 10, .inl d_orderDual)), (dq20, .inl (cJ, 11264, .inr (.inl d_table)))]) hP hD [0, 1, 2, 3, 4, 5, 6, 7, 8, 9, 10, 11] [] rfl rfl (by decide) (by decide) hk1 hFc hP1 hD1
    generalize H1 = H at hP hS ⊢
    have hP : va_P (dC, dI) classes [(dq, .inr (5, [.int u6, .int d_today, .int d_cut, .int d_aging, .int d_saleFrom, .int d_pieces, .int d_orders, .ref dq8, .ref dq9, .ref dq10, .ref dq11, .ref dq12, .ref dq13, .ref dq14, .ref dq15, .int d_ran, .int d_sum, .ref dq18, .ref dq19, .ref dq20])), (dq8, .inl (cI, 40, .inl d_piece)), (dq9, .inl (cI, 40, .inl d_order)), (dq10, .inl (cI, 10, .inl d_came)), (dq11, .inl (cI, 100, .inl d_worth)), (dq12, .inl (cZ, 10, .inl d_used)), (dq13, .inl (cI, 10, .inl d_usedBy)), (dq14, .inl (cI, 10, .inl d_reservedFor)), (dq15, .inl (cI, 10, .inl d_reservedTo)), (dq18, .inl (cI, 10, .inl d_pieceDual)), (dq19, .inl (cI, 10, .inl d_orderDual)), (dq20, .inl (cJ, 11264, .inr (.inl d_table)))] H := hP
    have hD : va_D A [(dq, .inr (5, [.int u6, .int d_today, .int d_cut, .int d_aging, .int d_saleFrom, .int d_pieces, .int d_orders, .ref dq8, .ref dq9, .ref dq10, .ref dq11, .ref dq12, .ref dq13, .ref dq14, .ref dq15, .int d_ran, .int d_sum, .ref dq18, .ref dq19, .ref dq20])), (dq8, .inl (cI, 40, .inl d_piece)), (dq9, .inl (cI, 40, .inl d_order)), (dq10, .inl (cI, 10, .inl d_came)), (dq11, .inl (cI, 100, .inl d_worth)), (dq12, .inl (cZ, 10, .inl d_used)), (dq13, .inl (cI, 10, .inl d_usedBy)), (dq14, .inl (cI, 10, .inl d_reservedFor)), (dq15, .inl (cI, 10, .inl d_reservedTo)), (dq18, .inl (cI, 10, .inl d_pieceDual)), (dq19, .inl (cI, 10, .inl d_orderDual)), (dq20, .inl (cJ, 11264, .inr (.inl d_table)))] := hD
    clear hP1 hD1 hPc hDc hFc hk1 hz1
    refine lv_if_ne (tgt := 33) hx hb d_D_order_28 (by decide) (fun c9 => ?_) (fun c9 => ?_)
    · replace hm := if_f c9 hm
      refine lv_iconst (v := 4) hx hb d_D_order_33 (by decide) ?_
      refine lv_aload_n hx hb d_D_order_34 rfl (lv_at hl 0 rfl) ?_
      refine va_get (D := (dC, dI)) (ci := 5) (v := .int d_orders) (C := R_D) (T := F_D) (N := 20) hx hb hts hk1 hown hK hP 0 rfl rfl 6 (by decide) hk0 (fun _ h9 => h9) rfl d_D_order_35 ?_
      refine lv_imul hx hb d_D_order_38 ?_
      refine lv_istore (lv' := [(5, .int (4 * d_orders)), (0, .ref dq), (1, .int x1), (2, .int x2), (3, .int x3), (4, .int x4)]) hx hb d_D_order_39 hl (by decide) rfl (fun ls hl => ?_)
      refine lv_aload_n hx hb d_D_order_41 rfl (lv_at hl 1 rfl) ?_
      refine va_get (D := (dC, dI)) (ci := 5) (v := .ref dq9) (C := R_D) (T := F_D) (N := 20) hx hb hts hk1 hown hK hP 0 rfl rfl 8 (by decide) hk2 (fun _ h9 => h9) rfl d_D_order_42 ?_
      refine lv_iload hx hb d_D_order_45 (lv_at hl 0 rfl) ?_
      refine lv_iload_n hx hb d_D_order_47 rfl (lv_at hl 2 rfl) ?_
      obtain ⟨h9, hm⟩ := gd hm
      refine va_iast hx hb hK hP hD hS 2 0 rfl rfl h9 d_D_order_48 (fun H locs hP hD hS => ?_)
      have hP : va_P (dC, dI) classes [(dq, .inr (5, [.int u6, .int d_today, .int d_cut, .int d_aging, .int d_saleFrom, .int d_pieces, .int d_orders, .ref dq8, .ref dq9, .ref dq10, .ref dq11, .ref dq12, .ref dq13, .ref dq14, .ref dq15, .int d_ran, .int d_sum, .ref dq18, .ref dq19, .ref dq20])), (dq8, .inl (cI, 40, .inl d_piece)), (dq9, .inl (cI, 40, .inl (upd d_order (4 * d_orders).toNatClampNeg x1))), (dq10, .inl (cI, 10, .inl d_came)), (dq11, .inl (cI, 100, .inl d_worth)), (dq12, .inl (cZ, 10, .inl d_used)), (dq13, .inl (cI, 10, .inl d_usedBy)), (dq14, .inl (cI, 10, .inl d_reservedFor)), (dq15, .inl (cI, 10, .inl d_reservedTo)), (dq18, .inl (cI, 10, .inl d_pieceDual)), (dq19, .inl (cI, 10, .inl d_orderDual)), (dq20, .inl (cJ, 11264, .inr (.inl d_table)))] H := hP
      have hD : va_D A [(dq, .inr (5, [.int u6, .int d_today, .int d_cut, .int d_aging, .int d_saleFrom, .int d_pieces, .int d_orders, .ref dq8, .ref dq9, .ref dq10, .ref dq11, .ref dq12, .ref dq13, .ref dq14, .ref dq15, .int d_ran, .int d_sum, .ref dq18, .ref dq19, .ref dq20])), (dq8, .inl (cI, 40, .inl d_piece)), (dq9, .inl (cI, 40, .inl (upd d_order (4 * d_orders).toNatClampNeg x1))), (dq10, .inl (cI, 10, .inl d_came)), (dq11, .inl (cI, 100, .inl d_worth)), (dq12, .inl (cZ, 10, .inl d_used)), (dq13, .inl (cI, 10, .inl d_usedBy)), (dq14, .inl (cI, 10, .inl d_reservedFor)), (dq15, .inl (cI, 10, .inl d_reservedTo)), (dq18, .inl (cI, 10, .inl d_pieceDual)), (dq19, .inl (cI, 10, .inl d_orderDual)), (dq20, .inl (cJ, 11264, .inr (.inl d_table)))] := hD
      refine lv_aload_n hx hb d_D_order_49 rfl (lv_at hl 1 rfl) ?_
      refine va_get (D := (dC, dI)) (ci := 5) (v := .ref dq9) (C := R_D) (T := F_D) (N := 20) hx hb hts hk1 hown hK hP 0 rfl rfl 8 (by decide) hk2 (fun _ h9 => h9) rfl d_D_order_50 ?_
      refine lv_iload hx hb d_D_order_53 (lv_at hl 0 rfl) ?_
      refine lv_iconst (v := 1) hx hb d_D_order_55 (by decide) ?_
      refine lv_iadd hx hb d_D_order_56 ?_
      refine lv_iload_n hx hb d_D_order_57 rfl (lv_at hl 3 rfl) ?_
      obtain ⟨h9, hm⟩ := gd hm
      refine va_iast hx hb hK hP hD hS 2 0 rfl rfl h9 d_D_order_58 (fun H locs hP hD hS => ?_)
      have hP : va_P (dC, dI) classes [(dq, .inr (5, [.int u6, .int d_today, .int d_cut, .int d_aging, .int d_saleFrom, .int d_pieces, .int d_orders, .ref dq8, .ref dq9, .ref dq10, .ref dq11, .ref dq12, .ref dq13, .ref dq14, .ref dq15, .int d_ran, .int d_sum, .ref dq18, .ref dq19, .ref dq20])), (dq8, .inl (cI, 40, .inl d_piece)), (dq9, .inl (cI, 40, .inl (upd (upd d_order (4 * d_orders).toNatClampNeg x1) ((4 * d_orders) + 1).toNatClampNeg x2))), (dq10, .inl (cI, 10, .inl d_came)), (dq11, .inl (cI, 100, .inl d_worth)), (dq12, .inl (cZ, 10, .inl d_used)), (dq13, .inl (cI, 10, .inl d_usedBy)), (dq14, .inl (cI, 10, .inl d_reservedFor)), (dq15, .inl (cI, 10, .inl d_reservedTo)), (dq18, .inl (cI, 10, .inl d_pieceDual)), (dq19, .inl (cI, 10, .inl d_orderDual)), (dq20, .inl (cJ, 11264, .inr (.inl d_table)))] H := hP
      have hD : va_D A [(dq, .inr (5, [.int u6, .int d_today, .int d_cut, .int d_aging, .int d_saleFrom, .int d_pieces, .int d_orders, .ref dq8, .ref dq9, .ref dq10, .ref dq11, .ref dq12, .ref dq13, .ref dq14, .ref dq15, .int d_ran, .int d_sum, .ref dq18, .ref dq19, .ref dq20])), (dq8, .inl (cI, 40, .inl d_piece)), (dq9, .inl (cI, 40, .inl (upd (upd d_order (4 * d_orders).toNatClampNeg x1) ((4 * d_orders) + 1).toNatClampNeg x2))), (dq10, .inl (cI, 10, .inl d_came)), (dq11, .inl (cI, 100, .inl d_worth)), (dq12, .inl (cZ, 10, .inl d_used)), (dq13, .inl (cI, 10, .inl d_usedBy)), (dq14, .inl (cI, 10, .inl d_reservedFor)), (dq15, .inl (cI, 10, .inl d_reservedTo)), (dq18, .inl (cI, 10, .inl d_pieceDual)), (dq19, .inl (cI, 10, .inl d_orderDual)), (dq20, .inl (cJ, 11264, .inr (.inl d_table)))] := hD
      refine lv_aload_n hx hb d_D_order_59 rfl (lv_at hl 1 rfl) ?_
      refine va_get (D := (dC, dI)) (ci := 5) (v := .ref dq9) (C := R_D) (T := F_D) (N := 20) hx hb hts hk1 hown hK hP 0 rfl rfl 8 (by decide) hk2 (fun _ h9 => h9) rfl d_D_order_60 ?_
      refine lv_iload hx hb d_D_order_63 (lv_at hl 0 rfl) ?_
      refine lv_iconst (v := 2) hx hb d_D_order_65 (by decide) ?_
      refine lv_iadd hx hb d_D_order_66 ?_
      refine lv_iload_n hx hb d_D_order_67 rfl (lv_at hl 4 rfl) ?_
      obtain ⟨h9, hm⟩ := gd hm
      refine va_iast hx hb hK hP hD hS 2 0 rfl rfl h9 d_D_order_68 (fun H locs hP hD hS => ?_)
      have hP : va_P (dC, dI) classes [(dq, .inr (5, [.int u6, .int d_today, .int d_cut, .int d_aging, .int d_saleFrom, .int d_pieces, .int d_orders, .ref dq8, .ref dq9, .ref dq10, .ref dq11, .ref dq12, .ref dq13, .ref dq14, .ref dq15, .int d_ran, .int d_sum, .ref dq18, .ref dq19, .ref dq20])), (dq8, .inl (cI, 40, .inl d_piece)), (dq9, .inl (cI, 40, .inl (upd (upd (upd d_order (4 * d_orders).toNatClampNeg x1) ((4 * d_orders) + 1).toNatClampNeg x2) ((4 * d_orders) + 2).toNatClampNeg x3))), (dq10, .inl (cI, 10, .inl d_came)), (dq11, .inl (cI, 100, .inl d_worth)), (dq12, .inl (cZ, 10, .inl d_used)), (dq13, .inl (cI, 10, .inl d_usedBy)), (dq14, .inl (cI, 10, .inl d_reservedFor)), (dq15, .inl (cI, 10, .inl d_reservedTo)), (dq18, .inl (cI, 10, .inl d_pieceDual)), (dq19, .inl (cI, 10, .inl d_orderDual)), (dq20, .inl (cJ, 11264, .inr (.inl d_table)))] H := hP
      have hD : va_D A [(dq, .inr (5, [.int u6, .int d_today, .int d_cut, .int d_aging, .int d_saleFrom, .int d_pieces, .int d_orders, .ref dq8, .ref dq9, .ref dq10, .ref dq11, .ref dq12, .ref dq13, .ref dq14, .ref dq15, .int d_ran, .int d_sum, .ref dq18, .ref dq19, .ref dq20])), (dq8, .inl (cI, 40, .inl d_piece)), (dq9, .inl (cI, 40, .inl (upd (upd (upd d_order (4 * d_orders).toNatClampNeg x1) ((4 * d_orders) + 1).toNatClampNeg x2) ((4 * d_orders) + 2).toNatClampNeg x3))), (dq10, .inl (cI, 10, .inl d_came)), (dq11, .inl (cI, 100, .inl d_worth)), (dq12, .inl (cZ, 10, .inl d_used)), (dq13, .inl (cI, 10, .inl d_usedBy)), (dq14, .inl (cI, 10, .inl d_reservedFor)), (dq15, .inl (cI, 10, .inl d_reservedTo)), (dq18, .inl (cI, 10, .inl d_pieceDual)), (dq19, .inl (cI, 10, .inl d_orderDual)), (dq20, .inl (cJ, 11264, .inr (.inl d_table)))] := hD
      refine lv_aload_n hx hb d_D_order_69 rfl (lv_at hl 1 rfl) ?_
      refine va_get (D := (dC, dI)) (ci := 5) (v := .ref dq9) (C := R_D) (T := F_D) (N := 20) hx hb hts hk1 hown hK hP 0 rfl rfl 8 (by decide) hk2 (fun _ h9 => h9) rfl d_D_order_70 ?_
      refine lv_iload hx hb d_D_order_73 (lv_at hl 0 rfl) ?_
      refine lv_iconst (v := 3) hx hb d_D_order_75 (by decide) ?_
      refine lv_iadd hx hb d_D_order_76 ?_
      refine lv_iload hx hb d_D_order_77 (lv_at hl 5 rfl) ?_
      obtain ⟨h9, hm⟩ := gd hm
      refine va_iast hx hb hK hP hD hS 2 0 rfl rfl h9 d_D_order_79 (fun H locs hP hD hS => ?_)
      have hP : va_P (dC, dI) classes [(dq, .inr (5, [.int u6, .int d_today, .int d_cut, .int d_aging, .int d_saleFrom, .int d_pieces, .int d_orders, .ref dq8, .ref dq9, .ref dq10, .ref dq11, .ref dq12, .ref dq13, .ref dq14, .ref dq15, .int d_ran, .int d_sum, .ref dq18, .ref dq19, .ref dq20])), (dq8, .inl (cI, 40, .inl d_piece)), (dq9, .inl (cI, 40, .inl (upd (upd (upd (upd d_order (4 * d_orders).toNatClampNeg x1) ((4 * d_orders) + 1).toNatClampNeg x2) ((4 * d_orders) + 2).toNatClampNeg x3) ((4 * d_orders) + 3).toNatClampNeg x4))), (dq10, .inl (cI, 10, .inl d_came)), (dq11, .inl (cI, 100, .inl d_worth)), (dq12, .inl (cZ, 10, .inl d_used)), (dq13, .inl (cI, 10, .inl d_usedBy)), (dq14, .inl (cI, 10, .inl d_reservedFor)), (dq15, .inl (cI, 10, .inl d_reservedTo)), (dq18, .inl (cI, 10, .inl d_pieceDual)), (dq19, .inl (cI, 10, .inl d_orderDual)), (dq20, .inl (cJ, 11264, .inr (.inl d_table)))] H := hP
      have hD : va_D A [(dq, .inr (5, [.int u6, .int d_today, .int d_cut, .int d_aging, .int d_saleFrom, .int d_pieces, .int d_orders, .ref dq8, .ref dq9, .ref dq10, .ref dq11, .ref dq12, .ref dq13, .ref dq14, .ref dq15, .int d_ran, .int d_sum, .ref dq18, .ref dq19, .ref dq20])), (dq8, .inl (cI, 40, .inl d_piece)), (dq9, .inl (cI, 40, .inl (upd (upd (upd (upd d_order (4 * d_orders).toNatClampNeg x1) ((4 * d_orders) + 1).toNatClampNeg x2) ((4 * d_orders) + 2).toNatClampNeg x3) ((4 * d_orders) + 3).toNatClampNeg x4))), (dq10, .inl (cI, 10, .inl d_came)), (dq11, .inl (cI, 100, .inl d_worth)), (dq12, .inl (cZ, 10, .inl d_used)), (dq13, .inl (cI, 10, .inl d_usedBy)), (dq14, .inl (cI, 10, .inl d_reservedFor)), (dq15, .inl (cI, 10, .inl d_reservedTo)), (dq18, .inl (cI, 10, .inl d_pieceDual)), (dq19, .inl (cI, 10, .inl d_orderDual)), (dq20, .inl (cJ, 11264, .inr (.inl d_table)))] := hD
      refine lv_aload_n hx hb d_D_order_80 rfl (lv_at hl 1 rfl) ?_
      refine va_get (D := (dC, dI)) (ci := 5) (v := .ref dq13) (C := R_D) (T := F_D) (N := 20) hx hb hts hk1 hown hK hP 0 rfl rfl 12 (by decide) hk3 (fun _ h9 => h9) rfl d_D_order_81 ?_
      refine lv_aload_n hx hb d_D_order_84 rfl (lv_at hl 1 rfl) ?_
      refine va_get (D := (dC, dI)) (ci := 5) (v := .int d_orders) (C := R_D) (T := F_D) (N := 20) hx hb hts hk1 hown hK hP 0 rfl rfl 6 (by decide) hk0 (fun _ h9 => h9) rfl d_D_order_85 ?_
      refine lv_iconst (v := (-1)) hx hb d_D_order_88 (by decide) ?_
      obtain ⟨h9, hm⟩ := gd hm
      refine va_iast hx hb hK hP hD hS 6 0 rfl rfl h9 d_D_order_89 (fun H locs hP hD hS => ?_)
      have hP : va_P (dC, dI) classes [(dq, .inr (5, [.int u6, .int d_today, .int d_cut, .int d_aging, .int d_saleFrom, .int d_pieces, .int d_orders, .ref dq8, .ref dq9, .ref dq10, .ref dq11, .ref dq12, .ref dq13, .ref dq14, .ref dq15, .int d_ran, .int d_sum, .ref dq18, .ref dq19, .ref dq20])), (dq8, .inl (cI, 40, .inl d_piece)), (dq9, .inl (cI, 40, .inl (upd (upd (upd (upd d_order (4 * d_orders).toNatClampNeg x1) ((4 * d_orders) + 1).toNatClampNeg x2) ((4 * d_orders) + 2).toNatClampNeg x3) ((4 * d_orders) + 3).toNatClampNeg x4))), (dq10, .inl (cI, 10, .inl d_came)), (dq11, .inl (cI, 100, .inl d_worth)), (dq12, .inl (cZ, 10, .inl d_used)), (dq13, .inl (cI, 10, .inl (upd d_usedBy d_orders.toNatClampNeg (-1)))), (dq14, .inl (cI, 10, .inl d_reservedFor)), (dq15, .inl (cI, 10, .inl d_reservedTo)), (dq18, .inl (cI, 10, .inl d_pieceDual)), (dq19, .inl (cI, 10, .inl d_orderDual)), (dq20, .inl (cJ, 11264, .inr (.inl d_table)))] H := hP
      have hD : va_D A [(dq, .inr (5, [.int u6, .int d_today, .int d_cut, .int d_aging, .int d_saleFrom, .int d_pieces, .int d_orders, .ref dq8, .ref dq9, .ref dq10, .ref dq11, .ref dq12, .ref dq13, .ref dq14, .ref dq15, .int d_ran, .int d_sum, .ref dq18, .ref dq19, .ref dq20])), (dq8, .inl (cI, 40, .inl d_piece)), (dq9, .inl (cI, 40, .inl (upd (upd (upd (upd d_order (4 * d_orders).toNatClampNeg x1) ((4 * d_orders) + 1).toNatClampNeg x2) ((4 * d_orders) + 2).toNatClampNeg x3) ((4 * d_orders) + 3).toNatClampNeg x4))), (dq10, .inl (cI, 10, .inl d_came)), (dq11, .inl (cI, 100, .inl d_worth)), (dq12, .inl (cZ, 10, .inl d_used)), (dq13, .inl (cI, 10, .inl (upd d_usedBy d_orders.toNatClampNeg (-1)))), (dq14, .inl (cI, 10, .inl d_reservedFor)), (dq15, .inl (cI, 10, .inl d_reservedTo)), (dq18, .inl (cI, 10, .inl d_pieceDual)), (dq19, .inl (cI, 10, .inl d_orderDual)), (dq20, .inl (cJ, 11264, .inr (.inl d_table)))] := hD
      refine lv_aload_n hx hb d_D_order_90 rfl (lv_at hl 1 rfl) ?_
      refine lv_iconst (v := 0) hx hb d_D_order_91 (by decide) ?_
      refine va_put (D := (dC, dI)) (ci := 5) (v := .int 0) (ty := .boolean) (C := R_D) (T := F_D) (N := 20) hx hb hts hk1 t_D t_D_ok n_D hown hK hP hD hS 0 rfl rfl 15 (by decide) hk4 (fun _ h9 => h9) rfl (by decide +kernel) rfl rfl (Nat.le_of_ble_eq_true rfl) d_D_order_92 (fun H locs hP hD hS => ?_)
      have hP : va_P (dC, dI) classes [(dq, .inr (5, [.int u6, .int d_today, .int d_cut, .int d_aging, .int d_saleFrom, .int d_pieces, .int d_orders, .ref dq8, .ref dq9, .ref dq10, .ref dq11, .ref dq12, .ref dq13, .ref dq14, .ref dq15, .int 0, .int d_sum, .ref dq18, .ref dq19, .ref dq20])), (dq8, .inl (cI, 40, .inl d_piece)), (dq9, .inl (cI, 40, .inl (upd (upd (upd (upd d_order (4 * d_orders).toNatClampNeg x1) ((4 * d_orders) + 1).toNatClampNeg x2) ((4 * d_orders) + 2).toNatClampNeg x3) ((4 * d_orders) + 3).toNatClampNeg x4))), (dq10, .inl (cI, 10, .inl d_came)), (dq11, .inl (cI, 100, .inl d_worth)), (dq12, .inl (cZ, 10, .inl d_used)), (dq13, .inl (cI, 10, .inl (upd d_usedBy d_orders.toNatClampNeg (-1)))), (dq14, .inl (cI, 10, .inl d_reservedFor)), (dq15, .inl (cI, 10, .inl d_reservedTo)), (dq18, .inl (cI, 10, .inl d_pieceDual)), (dq19, .inl (cI, 10, .inl d_orderDual)), (dq20, .inl (cJ, 11264, .inr (.inl d_table)))] H := hP
      have hD : va_D A [(dq, .inr (5, [.int u6, .int d_today, .int d_cut, .int d_aging, .int d_saleFrom, .int d_pieces, .int d_orders, .ref dq8, .ref dq9, .ref dq10, .ref dq11, .ref dq12, .ref dq13, .ref dq14, .ref dq15, .int 0, .int d_sum, .ref dq18, .ref dq19, .ref dq20])), (dq8, .inl (cI, 40, .inl d_piece)), (dq9, .inl (cI, 40, .inl (upd (upd (upd (upd d_order (4 * d_orders).toNatClampNeg x1) ((4 * d_orders) + 1).toNatClampNeg x2) ((4 * d_orders) + 2).toNatClampNeg x3) ((4 * d_orders) + 3).toNatClampNeg x4))), (dq10, .inl (cI, 10, .inl d_came)), (dq11, .inl (cI, 100, .inl d_worth)), (dq12, .inl (cZ, 10, .inl d_used)), (dq13, .inl (cI, 10, .inl (upd d_usedBy d_orders.toNatClampNeg (-1)))), (dq14, .inl (cI, 10, .inl d_reservedFor)), (dq15, .inl (cI, 10, .inl d_reservedTo)), (dq18, .inl (cI, 10, .inl d_pieceDual)), (dq19, .inl (cI, 10, .inl d_orderDual)), (dq20, .inl (cJ, 11264, .inr (.inl d_table)))] := hD
      refine lv_aload_n hx hb d_D_order_95 rfl (lv_at hl 1 rfl) ?_
      refine lv_dup hx hb d_D_order_96 rfl ?_
      refine va_get (D := (dC, dI)) (ci := 5) (v := .int d_orders) (C := R_D) (T := F_D) (N := 20) hx hb hts hk1 hown hK hP 0 rfl rfl 6 (by decide) hk0 (fun _ h9 => h9) rfl d_D_order_97 ?_
      refine lv_iconst (v := 1) hx hb d_D_order_100 (by decide) ?_
      refine lv_iadd hx hb d_D_order_101 ?_
      refine va_put (D := (dC, dI)) (ci := 5) (v := .int (d_orders + 1)) (ty := .int) (C := R_D) (T := F_D) (N := 20) hx hb hts hk1 t_D t_D_ok n_D hown hK hP hD hS 0 rfl rfl 6 (by decide) hk0 (fun _ h9 => h9) rfl (by decide +kernel) rfl rfl (Nat.le_of_ble_eq_true rfl) d_D_order_102 (fun H locs hP hD hS => ?_)
      have hP : va_P (dC, dI) classes [(dq, .inr (5, [.int u6, .int d_today, .int d_cut, .int d_aging, .int d_saleFrom, .int d_pieces, .int (d_orders + 1), .ref dq8, .ref dq9, .ref dq10, .ref dq11, .ref dq12, .ref dq13, .ref dq14, .ref dq15, .int 0, .int d_sum, .ref dq18, .ref dq19, .ref dq20])), (dq8, .inl (cI, 40, .inl d_piece)), (dq9, .inl (cI, 40, .inl (upd (upd (upd (upd d_order (4 * d_orders).toNatClampNeg x1) ((4 * d_orders) + 1).toNatClampNeg x2) ((4 * d_orders) + 2).toNatClampNeg x3) ((4 * d_orders) + 3).toNatClampNeg x4))), (dq10, .inl (cI, 10, .inl d_came)), (dq11, .inl (cI, 100, .inl d_worth)), (dq12, .inl (cZ, 10, .inl d_used)), (dq13, .inl (cI, 10, .inl (upd d_usedBy d_orders.toNatClampNeg (-1)))), (dq14, .inl (cI, 10, .inl d_reservedFor)), (dq15, .inl (cI, 10, .inl d_reservedTo)), (dq18, .inl (cI, 10, .inl d_pieceDual)), (dq19, .inl (cI, 10, .inl d_orderDual)), (dq20, .inl (cJ, 11264, .inr (.inl d_table)))] H := hP
      have hD : va_D A [(dq, .inr (5, [.int u6, .int d_today, .int d_cut, .int d_aging, .int d_saleFrom, .int d_pieces, .int (d_orders + 1), .ref dq8, .ref dq9, .ref dq10, .ref dq11, .ref dq12, .ref dq13, .ref dq14, .ref dq15, .int 0, .int d_sum, .ref dq18, .ref dq19, .ref dq20])), (dq8, .inl (cI, 40, .inl d_piece)), (dq9, .inl (cI, 40, .inl (upd (upd (upd (upd d_order (4 * d_orders).toNatClampNeg x1) ((4 * d_orders) + 1).toNatClampNeg x2) ((4 * d_orders) + 2).toNatClampNeg x3) ((4 * d_orders) + 3).toNatClampNeg x4))), (dq10, .inl (cI, 10, .inl d_came)), (dq11, .inl (cI, 100, .inl d_worth)), (dq12, .inl (cZ, 10, .inl d_used)), (dq13, .inl (cI, 10, .inl (upd d_usedBy d_orders.toNatClampNeg (-1)))), (dq14, .inl (cI, 10, .inl d_reservedFor)), (dq15, .inl (cI, 10, .inl d_reservedTo)), (dq18, .inl (cI, 10, .inl d_pieceDual)), (dq19, .inl (cI, 10, .inl d_orderDual)), (dq20, .inl (cJ, 11264, .inr (.inl d_table)))] := hD
      refine lv_aload_n hx hb d_D_order_105 rfl (lv_at hl 1 rfl) ?_
      refine va_get (D := (dC, dI)) (ci := 5) (v := .int (d_orders + 1)) (C := R_D) (T := F_D) (N := 20) hx hb hts hk1 hown hK hP 0 rfl rfl 6 (by decide) hk0 (fun _ h9 => h9) rfl d_D_order_106 ?_
      refine lv_iconst (v := 1) hx hb d_D_order_109 (by decide) ?_
      refine lv_isub hx hb d_D_order_110 ?_
      cases hm
      refine W.widen (k := 0) (n := 0) (Nat.le_of_ble_eq_true rfl) (Nat.le_of_ble_eq_true rfl) ?_
      exact W.iret hx hb hr (fun t ht hW => ⟨⟨_, (), rfl, rfl, by rw [ht]; exact hP, va_K.moved hW.alike hK, hD⟩, hS.F ht⟩) hS.2.2 d_D_order_111
    · replace hm := if_t c9 hm
      refine lv_iconst (v := 0) hx hb d_D_order_31 (by decide) ?_
      cases hm
      refine W.widen (k := 0) (n := 0) (Nat.le_of_ble_eq_true rfl) (Nat.le_of_ble_eq_true rfl) ?_
      exact W.iret hx hb hr (fun t ht hW => ⟨⟨_, (), rfl, rfl, by rw [ht]; exact hP, va_K.moved hW.alike hK, hD⟩, hS.F ht⟩) hS.2.2 d_D_order_32

def w_D_worth : List Cond := .code y_D_worth b_D_worth 5 none :: W0
theorem q_D_worth : y_D_worth.cls = R_D ∧ y_D_worth.cls ≠ "java/lang/invoke/MethodHandle" ∧ y_D_worth.cls ≠ "java/lang/invoke/VarHandle" ∧ (parseMethodDescriptor y_D_worth.desc).map (fun d => d.parameters.length) = some 3 := by decide +kernel
def m_D_worth (d_pieces : Int32) (d_orders : Int32) (d_piece : Nat → Int32) (d_order : Nat → Int32) (d_worth : Nat → Int32) (x1 : Int32) (x2 : Int32) (x3 : Int32) : Option (Int32 × (Nat → Int32)) :=
  ((m_D_isPiece d_pieces x1).bind fun r1 =>
  (if r1 = 0 then
    ((m_D_in x3 0 1000000).bind fun r2 =>
      ((m_D_goes 0 r2 0 1).bind fun (r3, u4) =>
        (if r3 = 0 then
          some (u4, d_worth)
         else
          (if ((10 * x1) + x2) < 0 ∨ 100 ≤ ((10 * x1) + x2).toNatClampNeg then none else
          some (u4, (upd d_worth ((10 * x1) + x2).toNatClampNeg x3))))))
   else
    ((m_D_isOrder d_orders x2).bind fun r7 =>
      (if r7 = 0 then
        ((m_D_in x3 0 1000000).bind fun r8 =>
          ((m_D_goes 0 r8 0 1).bind fun (r9, u10) =>
            (if r9 = 0 then
              some (u10, d_worth)
             else
              (if ((10 * x1) + x2) < 0 ∨ 100 ≤ ((10 * x1) + x2).toNatClampNeg then none else
              some (u10, (upd d_worth ((10 * x1) + x2).toNatClampNeg x3))))))
       else
        ((m_D_in x3 0 1000000).bind fun r13 =>
          ((m_D_isFit d_piece d_order x1 x2).bind fun r14 =>
            (if r14 = 0 then
              ((m_D_goes 1 r13 0 1).bind fun (r15, u16) =>
                (if r15 = 0 then
                  some (u16, d_worth)
                 else
                  (if ((10 * x1) + x2) < 0 ∨ 100 ≤ ((10 * x1) + x2).toNatClampNeg then none else
                  some (u16, (upd d_worth ((10 * x1) + x2).toNatClampNeg x3)))))
             else
              ((m_D_goes 1 r13 1 1).bind fun (r18, u19) =>
                (if r18 = 0 then
                  some (u19, d_worth)
                 else
                  (if ((10 * x1) + x2) < 0 ∨ 100 ≤ ((10 * x1) + x2).toNatClampNeg then none else
                  some (u19, (upd d_worth ((10 * x1) + x2).toNatClampNeg x3))))))))))))
set_option maxHeartbeats 4000000 in
set_option maxRecDepth 100000 in
theorem c_D_worth (l : Launch) (dC : Nat → ClassId) (dI : Nat → Nat → Nat) (cI cZ cJ : ClassId) (dq dq8 dq9 dq10 dq11 dq12 dq13 dq14 dq15 dq18 dq19 dq20 : Nat) (sz : Nat) (d_thrown : Int32) (d_today : Int32) (d_cut : Int32) (d_aging : Int32) (d_saleFrom : Int32) (d_pieces : Int32) (d_orders : Int32) (d_piece : Nat → Int32) (d_order : Nat → Int32) (d_came : Nat → Int32) (d_worth : Nat → Int32) (d_used : Nat → Int32) (d_usedBy : Nat → Int32) (d_reservedFor : Nat → Int32) (d_reservedTo : Nat → Int32) (d_ran : Int32) (d_sum : Int32) (d_pieceDual : Nat → Int32) (d_orderDual : Nat → Int32) (d_table : Nat → Int64) (x1 : Int32) (x2 : Int32) (x3 : Int32) (N : Nat) (res : Int32 × (Nat → Int32)) (hm : m_D_worth d_pieces d_orders d_piece d_order d_worth x1 x2 x3 = some res) : Met l y_D_worth w_D_worth ({ frames := 2, cells := 0, slots := 0, locals := 43 } : Room) (va_Pc [.ref dq, .int x1, .int x2, .int x3] (fun U => U.heap.size = sz ∧ va_P (dC, dI) classes [(dq, .inr (5, [.int d_thrown, .int d_today, .int d_cut, .int d_aging, .int d_saleFrom, .int d_pieces, .int d_orders, .ref dq8, .ref dq9, .ref dq10, .ref dq11, .ref dq12, .ref dq13, .ref dq14, .ref dq15, .int d_ran, .int d_sum, .ref dq18, .ref dq19, .ref dq20])), (dq8, .inl (cI, 40, .inl d_piece)), (dq9, .inl (cI, 40, .inl d_order)), (dq10, .inl (cI, 10, .inl d_came)), (dq11, .inl (cI, 100, .inl d_worth)), (dq12, .inl (cZ, 10, .inl d_used)), (dq13, .inl (cI, 10, .inl d_usedBy)), (dq14, .inl (cI, 10, .inl d_reservedFor)), (dq15, .inl (cI, 10, .inl d_reservedTo)), (dq18, .inl (cI, 10, .inl d_pieceDual)), (dq19, .inl (cI, 10, .inl d_orderDual)), (dq20, .inl (cJ, 11264, .inr (.inl d_table)))] U.heap ∧ va_K (dC, dI) classes [(cI, .int), (cZ, .boolean), (cJ, .long)] U ∧ va_D (fun _ => True) [(dq, .inr (5, [.int d_thrown, .int d_today, .int d_cut, .int d_aging, .int d_saleFrom, .int d_pieces, .int d_orders, .ref dq8, .ref dq9, .ref dq10, .ref dq11, .ref dq12, .ref dq13, .ref dq14, .ref dq15, .int d_ran, .int d_sum, .ref dq18, .ref dq19, .ref dq20])), (dq8, .inl (cI, 40, .inl d_piece)), (dq9, .inl (cI, 40, .inl d_order)), (dq10, .inl (cI, 10, .inl d_came)), (dq11, .inl (cI, 100, .inl d_worth)), (dq12, .inl (cZ, 10, .inl d_used)), (dq13, .inl (cI, 10, .inl d_usedBy)), (dq14, .inl (cI, 10, .inl d_reservedFor)), (dq15, .inl (cI, 10, .inl d_reservedTo)), (dq18, .inl (cI, 10, .inl d_pieceDual)), (dq19, .inl (cI, 10, .inl d_orderDual)), (dq20, .inl (cJ, 11264, .inr (.inl d_table)))] ∧ nw U)) (va_Qv (fun _ : Unit => True) (fun _ t => va_P (dC, dI) classes [(dq, .inr (5, [.int res.1, .int d_today, .int d_cut, .int d_aging, .int d_saleFrom, .int d_pieces, .int d_orders, .ref dq8, .ref dq9, .ref dq10, .ref dq11, .ref dq12, .ref dq13, .ref dq14, .ref dq15, .int d_ran, .int d_sum, .ref dq18, .ref dq19, .ref dq20])), (dq8, .inl (cI, 40, .inl d_piece)), (dq9, .inl (cI, 40, .inl d_order)), (dq10, .inl (cI, 10, .inl d_came)), (dq11, .inl (cI, 100, .inl res.2)), (dq12, .inl (cZ, 10, .inl d_used)), (dq13, .inl (cI, 10, .inl d_usedBy)), (dq14, .inl (cI, 10, .inl d_reservedFor)), (dq15, .inl (cI, 10, .inl d_reservedTo)), (dq18, .inl (cI, 10, .inl d_pieceDual)), (dq19, .inl (cI, 10, .inl d_orderDual)), (dq20, .inl (cJ, 11264, .inr (.inl d_table)))] t.heap ∧ va_K (dC, dI) classes [(cI, .int), (cZ, .boolean), (cJ, .long)] t ∧ va_D (va_A [(dq, .inr (5, [.int d_thrown, .int d_today, .int d_cut, .int d_aging, .int d_saleFrom, .int d_pieces, .int d_orders, .ref dq8, .ref dq9, .ref dq10, .ref dq11, .ref dq12, .ref dq13, .ref dq14, .ref dq15, .int d_ran, .int d_sum, .ref dq18, .ref dq19, .ref dq20])), (dq8, .inl (cI, 40, .inl d_piece)), (dq9, .inl (cI, 40, .inl d_order)), (dq10, .inl (cI, 10, .inl d_came)), (dq11, .inl (cI, 100, .inl d_worth)), (dq12, .inl (cZ, 10, .inl d_used)), (dq13, .inl (cI, 10, .inl d_usedBy)), (dq14, .inl (cI, 10, .inl d_reservedFor)), (dq15, .inl (cI, 10, .inl d_reservedTo)), (dq18, .inl (cI, 10, .inl d_pieceDual)), (dq19, .inl (cI, 10, .inl d_orderDual)), (dq20, .inl (cJ, 11264, .inr (.inl d_table)))] sz) [(dq, .inr (5, [.int res.1, .int d_today, .int d_cut, .int d_aging, .int d_saleFrom, .int d_pieces, .int d_orders, .ref dq8, .ref dq9, .ref dq10, .ref dq11, .ref dq12, .ref dq13, .ref dq14, .ref dq15, .int d_ran, .int d_sum, .ref dq18, .ref dq19, .ref dq20])), (dq8, .inl (cI, 40, .inl d_piece)), (dq9, .inl (cI, 40, .inl d_order)), (dq10, .inl (cI, 10, .inl d_came)), (dq11, .inl (cI, 100, .inl res.2)), (dq12, .inl (cZ, 10, .inl d_used)), (dq13, .inl (cI, 10, .inl d_usedBy)), (dq14, .inl (cI, 10, .inl d_reservedFor)), (dq15, .inl (cI, 10, .inl d_reservedTo)), (dq18, .inl (cI, 10, .inl d_pieceDual)), (dq19, .inl (cI, 10, .inl d_orderDual)), (dq20, .inl (cJ, 11264, .inr (.inl d_table)))]) (va_A [(dq, .inr (5, [.int d_thrown, .int d_today, .int d_cut, .int d_aging, .int d_saleFrom, .int d_pieces, .int d_orders, .ref dq8, .ref dq9, .ref dq10, .ref dq11, .ref dq12, .ref dq13, .ref dq14, .ref dq15, .int d_ran, .int d_sum, .ref dq18, .ref dq19, .ref dq20])), (dq8, .inl (cI, 40, .inl d_piece)), (dq9, .inl (cI, 40, .inl d_order)), (dq10, .inl (cI, 10, .inl d_came)), (dq11, .inl (cI, 100, .inl d_worth)), (dq12, .inl (cZ, 10, .inl d_used)), (dq13, .inl (cI, 10, .inl d_usedBy)), (dq14, .inl (cI, 10, .inl d_reservedFor)), (dq15, .inl (cI, 10, .inl d_reservedTo)), (dq18, .inl (cI, 10, .inl d_pieceDual)), (dq19, .inl (cI, 10, .inl d_orderDual)), (dq20, .inl (cJ, 11264, .inr (.inl d_table)))] sz)) 0 0 (va_A [(dq, .inr (5, [.int d_thrown, .int d_today, .int d_cut, .int d_aging, .int d_saleFrom, .int d_pieces, .int d_orders, .ref dq8, .ref dq9, .ref dq10, .ref dq11, .ref dq12, .ref dq13, .ref dq14, .ref dq15, .int d_ran, .int d_sum, .ref dq18, .ref dq19, .ref dq20])), (dq8, .inl (cI, 40, .inl d_piece)), (dq9, .inl (cI, 40, .inl d_order)), (dq10, .inl (cI, 10, .inl d_came)), (dq11, .inl (cI, 100, .inl d_worth)), (dq12, .inl (cZ, 10, .inl d_used)), (dq13, .inl (cI, 10, .inl d_usedBy)), (dq14, .inl (cI, 10, .inl d_reservedFor)), (dq15, .inl (cI, 10, .inl d_reservedTo)), (dq18, .inl (cI, 10, .inl d_pieceDual)), (dq19, .inl (cI, 10, .inl d_orderDual)), (dq20, .inl (cJ, 11264, .inr (.inl d_table)))] sz) := by
  unfold m_D_worth at hm
  refine Met.ofW (cc := b_D_worth) (maxL := 5) (ret := none) (by decide) rfl ?_
  intro p e s m args below meth c s₁ B hml hv
  obtain ⟨rfl, hsz, hP, hK, hD0, hN⟩ := hv
  have hx := B.exec
  have hb := B.bytes
  have hr := B.returns
  have hts := atoms_spec (ws := w_D_worth) B.pre
  have hown : s.vm.findClass R_D = some m.cls := findClass_of_methodNamed B.named
  have hlocks := B.notSynchronized
  subst hsz
  have hD := hD0.self (sz := s.heap.size)
  generalize hAe : va_A [(dq, .inr (5, [.int d_thrown, .int d_today, .int d_cut, .int d_aging, .int d_saleFrom, .int d_pieces, .int d_orders, .ref dq8, .ref dq9, .ref dq10, .ref dq11, .ref dq12, .ref dq13, .ref dq14, .ref dq15, .int d_ran, .int d_sum, .ref dq18, .ref dq19, .ref dq20])), (dq8, .inl (cI, 40, .inl d_piece)), (dq9, .inl (cI, 40, .inl d_order)), (dq10, .inl (cI, 10, .inl d_came)), (dq11, .inl (cI, 100, .inl d_worth)), (dq12, .inl (cZ, 10, .inl d_used)), (dq13, .inl (cI, 10, .inl d_usedBy)), (dq14, .inl (cI, 10, .inl d_reservedFor)), (dq15, .inl (cI, 10, .inl d_reservedTo)), (dq18, .inl (cI, 10, .inl d_pieceDual)), (dq19, .inl (cI, 10, .inl d_orderDual)), (dq20, .inl (cJ, 11264, .inr (.inl d_table)))] s.heap.size = A at hD ⊢
  have hA : ∀ q : Nat, s.heap.size ≤ q → A q := fun q h => by rw [← hAe]; exact Or.inr h
  have hS : va_S A s.heap s.heap [] := va_S.rf
  have hk0 := hts (.constant R_D 84 1000000) (List.mem_cons_of_mem _ (w0 687 rfl))
  have hk1 := hts (.fieldLink R_D 23 "SurplusMatchModel" "worth" "[I") (List.mem_cons_of_mem _ (w0 603 rfl))
  have hk2 : ∀ w ∈ w_D, w ∈ w_D_worth := fun w h => List.mem_cons_of_mem _ (i_D w h)
  have hl := lv_entry ([.ref dq, .int x1, .int x2, .int x3]) (n := 5) (Nat.le_of_ble_eq_true rfl)
  rw [lg_entry_eq]
  generalize (lg_sl ([.ref dq, .int x1, .int x2, .int x3]) ++ List.replicate (5 - (lg_sl ([.ref dq, .int x1, .int x2, .int x3])).length) Slot.unset).toArray = ls at hl ⊢
  have hl : lv_has ls 5 [(0, .ref dq), (1, .int x1), (2, .int x2), (3, .int x3)] := hl
  refine lv_aload_n hx hb d_D_worth_0 rfl (lv_at hl 0 rfl) ?_
  refine lv_iload_n hx hb d_D_worth_1 rfl (lv_at hl 1 rfl) ?_
  obtain ⟨r1, hc, hm⟩ := bd hm
  try dsimp only at hm
  refine vp_callSi (W.runV (As := [.int x1]) (rest := []) ⟨hx, hb, hml, hown, hts⟩ (c_D_isPiece l dC dI cI cZ cJ dq dq8 dq9 dq10 dq11 dq12 dq13 dq14 dq15 dq18 dq19 dq20 d_thrown d_today d_cut d_aging d_saleFrom d_pieces d_orders d_piece d_order d_came d_worth d_used d_usedBy d_reservedFor d_reservedTo d_ran d_sum d_pieceDual d_orderDual d_table x1 N r1 hc) (cwV 1 hts (gV (w0 681 rfl) (w0 682 rfl) (w0 19 rfl) (w0 33 rfl) (w0 683 rfl)) rfl rfl rfl q_D_isPiece ⟨Nat.le_of_ble_eq_true rfl, Nat.le_of_ble_eq_true rfl⟩) (ro_preV [0, 1, 2, 3, 4, 5, 6, 7, 8, 9, 10, 11] rfl hK hP hN 5 0 (R_D, F_D, 20) rfl rfl) rfl rfl hl.1 rfl (lv_room (Nat.le_of_ble_eq_true rfl)) d_D_worth_2 ⟨Nat.le_of_ble_eq_true rfl, Nat.le_of_ble_eq_true rfl⟩) (fun r9 hr9 => ?_)
  subst hr9
  refine lv_if_eq (tgt := 20) hx hb d_D_worth_5 (by decide) (fun c9 => ?_) (fun c9 => ?_)
  · replace hm := if_t c9 hm
    refine lv_iconst (v := 0) hx hb d_D_worth_20 (by decide) ?_
    refine lv_istore (lv' := [(4, .int 0), (0, .ref dq), (1, .int x1), (2, .int x2), (3, .int x3)]) hx hb d_D_worth_21 hl (by decide) rfl (fun ls hl => ?_)
    refine lv_aload_n hx hb d_D_worth_23 rfl (lv_at hl 1 rfl) ?_
    refine lv_iload hx hb d_D_worth_24 (lv_at hl 0 rfl) ?_
    refine lv_iload_n hx hb d_D_worth_26 rfl (lv_at hl 4 rfl) ?_
    refine lv_iconst (v := 0) hx hb d_D_worth_27 (by decide) ?_
    refine lv_ldc (v := 1000000) hx hb hown hk0 d_D_worth_28 ?_
    obtain ⟨r2, hc, hm⟩ := bd hm
    try dsimp only at hm
    refine vp_callSi (W.runS (As := [.int x3, .int 0, .int 1000000]) (rest := [.int 0, .ref dq]) ⟨hx, hb, hml, hown, hts⟩ (c_D_in l dC dI cI x3 0 1000000 N r2 hc) (cwS 3 hts (gS (w0 667 rfl) (w0 668 rfl) (w0 33 rfl) (w0 669 rfl)) rfl rfl rfl q_D_in ⟨Nat.le_of_ble_eq_true rfl, Nat.le_of_ble_eq_true rfl⟩) ro_pre0 rfl rfl hl.1 rfl (lv_room (Nat.le_of_ble_eq_true rfl)) d_D_worth_30 ⟨Nat.le_of_ble_eq_true rfl, Nat.le_of_ble_eq_true rfl⟩) (fun r9 hr9 => ?_)
    subst hr9
    refine lv_iload hx hb d_D_worth_33 (lv_at hl 0 rfl) ?_
    refine lv_if_eq (tgt := 51) hx hb d_D_worth_35 (by decide) (fun c9 => ?_) (fun c9 => absurd (by decide) c9)
    clear c9
    refine lv_iconst (v := 0) hx hb d_D_worth_51 (by decide) ?_
    refine lv_iconst (v := 1) hx hb d_D_worth_52 (by decide) ?_
    obtain ⟨⟨r3, u4⟩, hc, hm⟩ := bd hm
    try dsimp only at hm
    have hPc := hP.sub (ws' := [(dq, .inr (5, [.int d_thrown, .int d_today, .int d_cut, .int d_aging, .int d_saleFrom, .int d_pieces, .int d_orders, .ref dq8, .ref dq9, .ref dq10, .ref dq11, .ref dq12, .ref dq13, .ref dq14, .ref dq15, .int d_ran, .int d_sum, .ref dq18, .ref dq19, .ref dq20])), (dq8, .inl (cI, 40, .inl d_piece)), (dq9, .inl (cI, 40, .inl d_order)), (dq10, .inl (cI, 10, .inl d_came)), (dq11, .inl (cI, 100, .inl d_worth)), (dq12, .inl (cZ, 10, .inl d_used)), (dq13, .inl (cI, 10, .inl d_usedBy)), (dq14, .inl (cI, 10, .inl d_reservedFor)), (dq15, .inl (cI, 10, .inl d_reservedTo)), (dq18, .inl (cI, 10, .inl d_pieceDual)), (dq19, .inl (cI, 10, .inl d_orderDual)), (dq20, .inl (cJ, 11264, .inr (.inl d_table)))]) [0, 1, 2, 3, 4, 5, 6, 7, 8, 9, 10, 11] rfl
    have hDc := hD.sub (ws' := [(dq, .inr (5, [.int d_thrown, .int d_today, .int d_cut, .int d_aging, .int d_saleFrom, .int d_pieces, .int d_orders, .ref dq8, .ref dq9, .ref dq10, .ref dq11, .ref dq12, .ref dq13, .ref dq14, .ref dq15, .int d_ran, .int d_sum, .ref dq18, .ref dq19, .ref dq20])), (dq8, .inl (cI, 40, .inl d_piece)), (dq9, .inl (cI, 40, .inl d_order)), (dq10, .inl (cI, 10, .inl d_came)), (dq11, .inl (cI, 100, .inl d_worth)), (dq12, .inl (cZ, 10, .inl d_used)), (dq13, .inl (cI, 10, .inl d_usedBy)), (dq14, .inl (cI, 10, .inl d_reservedFor)), (dq15, .inl (cI, 10, .inl d_reservedTo)), (dq18, .inl (cI, 10, .inl d_pieceDual)), (dq19, .inl (cI, 10, .inl d_orderDual)), (dq20, .inl (cJ, 11264, .inr (.inl d_table)))]) [0, 1, 2, 3, 4, 5, 6, 7, 8, 9, 10, 11] (by decide) rfl
    have hFc := va_free (wc := [(dq, .inr (5, [.int d_thrown, .int d_today, .int d_cut, .int d_aging, .int d_saleFrom, .int d_pieces, .int d_orders, .ref dq8, .ref dq9, .ref dq10, .ref dq11, .ref dq12, .ref dq13, .ref dq14, .ref dq15, .int d_ran, .int d_sum, .ref dq18, .ref dq19, .ref dq20])), (dq8, .inl (cI, 40, .inl d_piece)), (dq9, .inl (cI, 40, .inl d_order)), (dq10, .inl (cI, 10, .inl d_came)), (dq11, .inl (cI, 100, .inl d_worth)), (dq12, .inl (cZ, 10, .inl d_used)), (dq13, .inl (cI, 10, .inl d_usedBy)), (dq14, .inl (cI, 10, .inl d_reservedFor)), (dq15, .inl (cI, 10, .inl d_reservedTo)), (dq18, .inl (cI, 10, .inl d_pieceDual)), (dq19, .inl (cI, 10, .inl d_orderDual)), (dq20, .inl (cJ, 11264, .inr (.inl d_table)))]) hD hS hA [0, 1, 2, 3, 4, 5, 6, 7, 8, 9, 10, 11] rfl
    refine va_calli (va_runV (As := [.int 0, .int r2, .int 0, .int 1]) (rest := []) ⟨hx, hb, hml, hown, hts⟩ (c_D_goes l dC dI cI cZ cJ dq dq8 dq9 dq10 dq11 dq12 dq13 dq14 dq15 dq18 dq19 dq20 s.heap.size d_thrown d_today d_cut d_aging d_saleFrom d_pieces d_orders d_piece d_order d_came d_worth d_used d_usedBy d_reservedFor d_reservedTo d_ran d_sum d_pieceDual d_orderDual d_table 0 r2 0 1 N (r3, u4) hc) (cwV 4 hts (gV (w0 670 rfl) (w0 671 rfl) (w0 18 rfl) (w0 33 rfl) (w0 672 rfl)) rfl rfl rfl q_D_goes ⟨Nat.le_of_ble_eq_true rfl, Nat.le_of_ble_eq_true rfl⟩) (wr_preV hK hPc hDc hN 5 0 (R_D, F_D, 20) rfl rfl) rfl rfl hl.1 rfl (lv_room (Nat.le_of_ble_eq_true rfl)) d_D_worth_53 ⟨Nat.le_of_ble_eq_true rfl, Nat.le_of_ble_eq_true rfl⟩) hS (fun q _ h => hFc q h) hFc (fun r9 u t H1 locs ht hvm hw hB hz1 hk1 hS => ?_)
    subst hw
    obtain ⟨hP1, hK1, hD1⟩ := hB
    rw [ht] at hP1
    obtain ⟨hP, hD⟩ := va_join (wr := []) (w1 := [(dq, .inr (5, [.int u4, .int d_today, .int d_cut, .int d_aging, .int d_saleFrom, .int d_pieces, .int d_orders, .ref dq8, .ref dq9, .ref dq10, .ref dq11, .ref dq12, .ref dq13, .ref dq14, .ref dq15, .int d_ran, .int d_sum, .ref dq18, .ref dq19, .ref dq20])), (dq8, .inl (cI, 40, .inl d_piece)), (dq9, .inl (cI, 40, .inl d_order)), (dq10, .inl (cI, 10, .inl d_came)), (dq11, .inl (cI, 100, .inl d_worth)), (dq12, .inl (cZ, 10, .inl d_used)), (dq13, .inl (cI, 10, .inl d_usedBy)), (dq14, .inl (cI, 10, .inl d_reservedFor)), (dq15, .inl (cI, 10, .inl d_reservedTo)), (dq18, .inl (cI, 10, .inl d_pieceDual)), (dq19, .inl (cI, 10, .inl d_orderDual)), (dq20, .inl (cJ, 11264, .inr (.inl d_table)))]) hP hD [0, 1, 2, 3, 4, 5, 6, 7, 8, 9, 10, 11] [] rfl rfl (by decide) (by decide) hk1 hFc hP1 hD1
    generalize H1 = H at hP hS ⊢
    have hP : va_P (dC, dI) classes [(dq, .inr (5, [.int u4, .int d_today, .int d_cut, .int d_aging, .int d_saleFrom, .int d_pieces, .int d_orders, .ref dq8, .ref dq9, .ref dq10, .ref dq11, .ref dq12, .ref dq13, .ref dq14, .ref dq15, .int d_ran, .int d_sum, .ref dq18, .ref dq19, .ref dq20])), (dq8, .inl (cI, 40, .inl d_piece)), (dq9, .inl (cI, 40, .inl d_order)), (dq10, .inl (cI, 10, .inl d_came)), (dq11, .inl (cI, 100, .inl d_worth)), (dq12, .inl (cZ, 10, .inl d_used)), (dq13, .inl (cI, 10, .inl d_usedBy)), (dq14, .inl (cI, 10, .inl d_reservedFor)), (dq15, .inl (cI, 10, .inl d_reservedTo)), (dq18, .inl (cI, 10, .inl d_pieceDual)), (dq19, .inl (cI, 10, .inl d_orderDual)), (dq20, .inl (cJ, 11264, .inr (.inl d_table)))] H := hP
    have hD : va_D A [(dq, .inr (5, [.int u4, .int d_today, .int d_cut, .int d_aging, .int d_saleFrom, .int d_pieces, .int d_orders, .ref dq8, .ref dq9, .ref dq10, .ref dq11, .ref dq12, .ref dq13, .ref dq14, .ref dq15, .int d_ran, .int d_sum, .ref dq18, .ref dq19, .ref dq20])), (dq8, .inl (cI, 40, .inl d_piece)), (dq9, .inl (cI, 40, .inl d_order)), (dq10, .inl (cI, 10, .inl d_came)), (dq11, .inl (cI, 100, .inl d_worth)), (dq12, .inl (cZ, 10, .inl d_used)), (dq13, .inl (cI, 10, .inl d_usedBy)), (dq14, .inl (cI, 10, .inl d_reservedFor)), (dq15, .inl (cI, 10, .inl d_reservedTo)), (dq18, .inl (cI, 10, .inl d_pieceDual)), (dq19, .inl (cI, 10, .inl d_orderDual)), (dq20, .inl (cJ, 11264, .inr (.inl d_table)))] := hD
    clear hP1 hD1 hPc hDc hFc hk1 hz1
    refine lv_if_eq (tgt := 71) hx hb d_D_worth_56 (by decide) (fun c9 => ?_) (fun c9 => ?_)
    · replace hm := if_t c9 hm
      cases hm
      refine W.widen (k := 0) (n := 0) (Nat.le_of_ble_eq_true rfl) (Nat.le_of_ble_eq_true rfl) ?_
      exact W.vret hx hb hr (fun t ht hW => ⟨⟨(), rfl, trivial, by rw [ht]; exact hP, va_K.moved hW.alike hK, hD⟩, hS.F ht⟩) hS.2.2 d_D_worth_71
    · replace hm := if_f c9 hm
      refine lv_aload_n hx hb d_D_worth_59 rfl (lv_at hl 1 rfl) ?_
      refine va_get (D := (dC, dI)) (ci := 5) (v := .ref dq11) (C := R_D) (T := F_D) (N := 20) hx hb hts hk2 hown hK hP 0 rfl rfl 10 (by decide) hk1 (fun _ h9 => h9) rfl d_D_worth_60 ?_
      refine lv_bipush (v := 10) hx hb d_D_worth_63 (by decide) ?_
      refine lv_iload_n hx hb d_D_worth_65 rfl (lv_at hl 2 rfl) ?_
      refine lv_imul hx hb d_D_worth_66 ?_
      refine lv_iload_n hx hb d_D_worth_67 rfl (lv_at hl 3 rfl) ?_
      refine lv_iadd hx hb d_D_worth_68 ?_
      refine lv_iload_n hx hb d_D_worth_69 rfl (lv_at hl 4 rfl) ?_
      obtain ⟨h9, hm⟩ := gd hm
      refine va_iast hx hb hK hP hD hS 4 0 rfl rfl h9 d_D_worth_70 (fun H locs hP hD hS => ?_)
      have hP : va_P (dC, dI) classes [(dq, .inr (5, [.int u4, .int d_today, .int d_cut, .int d_aging, .int d_saleFrom, .int d_pieces, .int d_orders, .ref dq8, .ref dq9, .ref dq10, .ref dq11, .ref dq12, .ref dq13, .ref dq14, .ref dq15, .int d_ran, .int d_sum, .ref dq18, .ref dq19, .ref dq20])), (dq8, .inl (cI, 40, .inl d_piece)), (dq9, .inl (cI, 40, .inl d_order)), (dq10, .inl (cI, 10, .inl d_came)), (dq11, .inl (cI, 100, .inl (upd d_worth ((10 * x1) + x2).toNatClampNeg x3))), (dq12, .inl (cZ, 10, .inl d_used)), (dq13, .inl (cI, 10, .inl d_usedBy)), (dq14, .inl (cI, 10, .inl d_reservedFor)), (dq15, .inl (cI, 10, .inl d_reservedTo)), (dq18, .inl (cI, 10, .inl d_pieceDual)), (dq19, .inl (cI, 10, .inl d_orderDual)), (dq20, .inl (cJ, 11264, .inr (.inl d_table)))] H := hP
      have hD : va_D A [(dq, .inr (5, [.int u4, .int d_today, .int d_cut, .int d_aging, .int d_saleFrom, .int d_pieces, .int d_orders, .ref dq8, .ref dq9, .ref dq10, .ref dq11, .ref dq12, .ref dq13, .ref dq14, .ref dq15, .int d_ran, .int d_sum, .ref dq18, .ref dq19, .ref dq20])), (dq8, .inl (cI, 40, .inl d_piece)), (dq9, .inl (cI, 40, .inl d_order)), (dq10, .inl (cI, 10, .inl d_came)), (dq11, .inl (cI, 100, .inl (upd d_worth ((10 * x1) + x2).toNatClampNeg x3))), (dq12, .inl (cZ, 10, .inl d_used)), (dq13, .inl (cI, 10, .inl d_usedBy)), (dq14, .inl (cI, 10, .inl d_reservedFor)), (dq15, .inl (cI, 10, .inl d_reservedTo)), (dq18, .inl (cI, 10, .inl d_pieceDual)), (dq19, .inl (cI, 10, .inl d_orderDual)), (dq20, .inl (cJ, 11264, .inr (.inl d_table)))] := hD
      cases hm
      refine W.widen (k := 0) (n := 0) (Nat.le_of_ble_eq_true rfl) (Nat.le_of_ble_eq_true rfl) ?_
      exact W.vret hx hb hr (fun t ht hW => ⟨⟨(), rfl, trivial, by rw [ht]; exact hP, va_K.moved hW.alike hK, hD⟩, hS.F ht⟩) hS.2.2 d_D_worth_71
  · replace hm := if_f c9 hm
    refine lv_aload_n hx hb d_D_worth_8 rfl (lv_at hl 0 rfl) ?_
    refine lv_iload_n hx hb d_D_worth_9 rfl (lv_at hl 2 rfl) ?_
    obtain ⟨r7, hc, hm⟩ := bd hm
    try dsimp only at hm
    refine vp_callSi (W.runV (As := [.int x2]) (rest := []) ⟨hx, hb, hml, hown, hts⟩ (c_D_isOrder l dC dI cI cZ cJ dq dq8 dq9 dq10 dq11 dq12 dq13 dq14 dq15 dq18 dq19 dq20 d_thrown d_today d_cut d_aging d_saleFrom d_pieces d_orders d_piece d_order d_came d_worth d_used d_usedBy d_reservedFor d_reservedTo d_ran d_sum d_pieceDual d_orderDual d_table x2 N r7 hc) (cwV 1 hts (gV (w0 684 rfl) (w0 685 rfl) (w0 20 rfl) (w0 33 rfl) (w0 686 rfl)) rfl rfl rfl q_D_isOrder ⟨Nat.le_of_ble_eq_true rfl, Nat.le_of_ble_eq_true rfl⟩) (ro_preV [0, 1, 2, 3, 4, 5, 6, 7, 8, 9, 10, 11] rfl hK hP hN 5 0 (R_D, F_D, 20) rfl rfl) rfl rfl hl.1 rfl (lv_room (Nat.le_of_ble_eq_true rfl)) d_D_worth_10 ⟨Nat.le_of_ble_eq_true rfl, Nat.le_of_ble_eq_true rfl⟩) (fun r9 hr9 => ?_)
    subst hr9
    refine lv_if_eq (tgt := 20) hx hb d_D_worth_13 (by decide) (fun c9 => ?_) (fun c9 => ?_)
    · replace hm := if_t c9 hm
      refine lv_iconst (v := 0) hx hb d_D_worth_20 (by decide) ?_
      refine lv_istore (lv' := [(4, .int 0), (0, .ref dq), (1, .int x1), (2, .int x2), (3, .int x3)]) hx hb d_D_worth_21 hl (by decide) rfl (fun ls hl => ?_)
      refine lv_aload_n hx hb d_D_worth_23 rfl (lv_at hl 1 rfl) ?_
      refine lv_iload hx hb d_D_worth_24 (lv_at hl 0 rfl) ?_
      refine lv_iload_n hx hb d_D_worth_26 rfl (lv_at hl 4 rfl) ?_
      refine lv_iconst (v := 0) hx hb d_D_worth_27 (by decide) ?_
      refine lv_ldc (v := 1000000) hx hb hown hk0 d_D_worth_28 ?_
      obtain ⟨r8, hc, hm⟩ := bd hm
      try dsimp only at hm
      refine vp_callSi (W.runS (As := [.int x3, .int 0, .int 1000000]) (rest := [.int 0, .ref dq]) ⟨hx, hb, hml, hown, hts⟩ (c_D_in l dC dI cI x3 0 1000000 N r8 hc) (cwS 3 hts (gS (w0 667 rfl) (w0 668 rfl) (w0 33 rfl) (w0 669 rfl)) rfl rfl rfl q_D_in ⟨Nat.le_of_ble_eq_true rfl, Nat.le_of_ble_eq_true rfl⟩) ro_pre0 rfl rfl hl.1 rfl (lv_room (Nat.le_of_ble_eq_true rfl)) d_D_worth_30 ⟨Nat.le_of_ble_eq_true rfl, Nat.le_of_ble_eq_true rfl⟩) (fun r9 hr9 => ?_)
      subst hr9
      refine lv_iload hx hb d_D_worth_33 (lv_at hl 0 rfl) ?_
      refine lv_if_eq (tgt := 51) hx hb d_D_worth_35 (by decide) (fun c9 => ?_) (fun c9 => absurd (by decide) c9)
      clear c9
      refine lv_iconst (v := 0) hx hb d_D_worth_51 (by decide) ?_
      refine lv_iconst (v := 1) hx hb d_D_worth_52 (by decide) ?_
      obtain ⟨⟨r9, u10⟩, hc, hm⟩ := bd hm
      try dsimp only at hm
      have hPc := hP.sub (ws' := [(dq, .inr (5, [.int d_thrown, .int d_today, .int d_cut, .int d_aging, .int d_saleFrom, .int d_pieces, .int d_orders, .ref dq8, .ref dq9, .ref dq10, .ref dq11, .ref dq12, .ref dq13, .ref dq14, .ref dq15, .int d_ran, .int d_sum, .ref dq18, .ref dq19, .ref dq20])), (dq8, .inl (cI, 40, .inl d_piece)), (dq9, .inl (cI, 40, .inl d_order)), (dq10, .inl (cI, 10, .inl d_came)), (dq11, .inl (cI, 100, .inl d_worth)), (dq12, .inl (cZ, 10, .inl d_used)), (dq13, .inl (cI, 10, .inl d_usedBy)), (dq14, .inl (cI, 10, .inl d_reservedFor)), (dq15, .inl (cI, 10, .inl d_reservedTo)), (dq18, .inl (cI, 10, .inl d_pieceDual)), (dq19, .inl (cI, 10, .inl d_orderDual)), (dq20, .inl (cJ, 11264, .inr (.inl d_table)))]) [0, 1, 2, 3, 4, 5, 6, 7, 8, 9, 10, 11] rfl
      have hDc := hD.sub (ws' := [(dq, .inr (5, [.int d_thrown, .int d_today, .int d_cut, .int d_aging, .int d_saleFrom, .int d_pieces, .int d_orders, .ref dq8, .ref dq9, .ref dq10, .ref dq11, .ref dq12, .ref dq13, .ref dq14, .ref dq15, .int d_ran, .int d_sum, .ref dq18, .ref dq19, .ref dq20])), (dq8, .inl (cI, 40, .inl d_piece)), (dq9, .inl (cI, 40, .inl d_order)), (dq10, .inl (cI, 10, .inl d_came)), (dq11, .inl (cI, 100, .inl d_worth)), (dq12, .inl (cZ, 10, .inl d_used)), (dq13, .inl (cI, 10, .inl d_usedBy)), (dq14, .inl (cI, 10, .inl d_reservedFor)), (dq15, .inl (cI, 10, .inl d_reservedTo)), (dq18, .inl (cI, 10, .inl d_pieceDual)), (dq19, .inl (cI, 10, .inl d_orderDual)), (dq20, .inl (cJ, 11264, .inr (.inl d_table)))]) [0, 1, 2, 3, 4, 5, 6, 7, 8, 9, 10, 11] (by decide) rfl
      have hFc := va_free (wc := [(dq, .inr (5, [.int d_thrown, .int d_today, .int d_cut, .int d_aging, .int d_saleFrom, .int d_pieces, .int d_orders, .ref dq8, .ref dq9, .ref dq10, .ref dq11, .ref dq12, .ref dq13, .ref dq14, .ref dq15, .int d_ran, .int d_sum, .ref dq18, .ref dq19, .ref dq20])), (dq8, .inl (cI, 40, .inl d_piece)), (dq9, .inl (cI, 40, .inl d_order)), (dq10, .inl (cI, 10, .inl d_came)), (dq11, .inl (cI, 100, .inl d_worth)), (dq12, .inl (cZ, 10, .inl d_used)), (dq13, .inl (cI, 10, .inl d_usedBy)), (dq14, .inl (cI, 10, .inl d_reservedFor)), (dq15, .inl (cI, 10, .inl d_reservedTo)), (dq18, .inl (cI, 10, .inl d_pieceDual)), (dq19, .inl (cI, 10, .inl d_orderDual)), (dq20, .inl (cJ, 11264, .inr (.inl d_table)))]) hD hS hA [0, 1, 2, 3, 4, 5, 6, 7, 8, 9, 10, 11] rfl
      refine va_calli (va_runV (As := [.int 0, .int r8, .int 0, .int 1]) (rest := []) ⟨hx, hb, hml, hown, hts⟩ (c_D_goes l dC dI cI cZ cJ dq dq8 dq9 dq10 dq11 dq12 dq13 dq14 dq15 dq18 dq19 dq20 s.heap.size d_thrown d_today d_cut d_aging d_saleFrom d_pieces d_orders d_piece d_order d_came d_worth d_used d_usedBy d_reservedFor d_reservedTo d_ran d_sum d_pieceDual d_orderDual d_table 0 r8 0 1 N (r9, u10) hc) (cwV 4 hts (gV (w0 670 rfl) (w0 671 rfl) (w0 18 rfl) (w0 33 rfl) (w0 672 rfl)) rfl rfl rfl q_D_goes ⟨Nat.le_of_ble_eq_true rfl, Nat.le_of_ble_eq_true rfl⟩) (wr_preV hK hPc hDc hN 5 0 (R_D, F_D, 20) rfl rfl) rfl rfl hl.1 rfl (lv_room (Nat.le_of_ble_eq_true rfl)) d_D_worth_53 ⟨Nat.le_of_ble_eq_true rfl, Nat.le_of_ble_eq_true rfl⟩) hS (fun q _ h => hFc q h) hFc (fun r9 u t H1 locs ht hvm hw hB hz1 hk1 hS => ?_)
      subst hw
      obtain ⟨hP1, hK1, hD1⟩ := hB
      rw [ht] at hP1
      obtain ⟨hP, hD⟩ := va_join (wr := []) (w1 := [(dq, .inr (5, [.int u10, .int d_today, .int d_cut, .int d_aging, .int d_saleFrom, .int d_pieces, .int d_orders, .ref dq8, .ref dq9, .ref dq10, .ref dq11, .ref dq12, .ref dq13, .ref dq14, .ref dq15, .int d_ran, .int d_sum, .ref dq18, .ref dq19, .ref dq20])), (dq8, .inl (cI, 40, .inl d_piece)), (dq9, .inl (cI, 40, .inl d_order)), (dq10, .inl (cI, 10, .inl d_came)), (dq11, .inl (cI, 100, .inl d_worth)), (dq12, .inl (cZ, 10, .inl d_used)), (dq13, .inl (cI, 10, .inl d_usedBy)), (dq14, .inl (cI, 10, .inl d_reservedFor)), (dq15, .inl (cI, 10, .inl d_reservedTo)), (dq18, .inl (cI, 10, .inl d_pieceDual)), (dq19, .inl (cI, 10, .inl d_orderDual)), (dq20, .inl (cJ, 11264, .inr (.inl d_table)))]) hP hD [0, 1, 2, 3, 4, 5, 6, 7, 8, 9, 10, 11] [] rfl rfl (by decide) (by decide) hk1 hFc hP1 hD1
      generalize H1 = H at hP hS ⊢
      have hP : va_P (dC, dI) classes [(dq, .inr (5, [.int u10, .int d_today, .int d_cut, .int d_aging, .int d_saleFrom, .int d_pieces, .int d_orders, .ref dq8, .ref dq9, .ref dq10, .ref dq11, .ref dq12, .ref dq13, .ref dq14, .ref dq15, .int d_ran, .int d_sum, .ref dq18, .ref dq19, .ref dq20])), (dq8, .inl (cI, 40, .inl d_piece)), (dq9, .inl (cI, 40, .inl d_order)), (dq10, .inl (cI, 10, .inl d_came)), (dq11, .inl (cI, 100, .inl d_worth)), (dq12, .inl (cZ, 10, .inl d_used)), (dq13, .inl (cI, 10, .inl d_usedBy)), (dq14, .inl (cI, 10, .inl d_reservedFor)), (dq15, .inl (cI, 10, .inl d_reservedTo)), (dq18, .inl (cI, 10, .inl d_pieceDual)), (dq19, .inl (cI, 10, .inl d_orderDual)), (dq20, .inl (cJ, 11264, .inr (.inl d_table)))] H := hP
      have hD : va_D A [(dq, .inr (5, [.int u10, .int d_today, .int d_cut, .int d_aging, .int d_saleFrom, .int d_pieces, .int d_orders, .ref dq8, .ref dq9, .ref dq10, .ref dq11, .ref dq12, .ref dq13, .ref dq14, .ref dq15, .int d_ran, .int d_sum, .ref dq18, .ref dq19, .ref dq20])), (dq8, .inl (cI, 40, .inl d_piece)), (dq9, .inl (cI, 40, .inl d_order)), (dq10, .inl (cI, 10, .inl d_came)), (dq11, .inl (cI, 100, .inl d_worth)), (dq12, .inl (cZ, 10, .inl d_used)), (dq13, .inl (cI, 10, .inl d_usedBy)), (dq14, .inl (cI, 10, .inl d_reservedFor)), (dq15, .inl (cI, 10, .inl d_reservedTo)), (dq18, .inl (cI, 10, .inl d_pieceDual)), (dq19, .inl (cI, 10, .inl d_orderDual)), (dq20, .inl (cJ, 11264, .inr (.inl d_table)))] := hD
      clear hP1 hD1 hPc hDc hFc hk1 hz1
      refine lv_if_eq (tgt := 71) hx hb d_D_worth_56 (by decide) (fun c9 => ?_) (fun c9 => ?_)
      · replace hm := if_t c9 hm
        cases hm
        refine W.widen (k := 0) (n := 0) (Nat.le_of_ble_eq_true rfl) (Nat.le_of_ble_eq_true rfl) ?_
        exact W.vret hx hb hr (fun t ht hW => ⟨⟨(), rfl, trivial, by rw [ht]; exact hP, va_K.moved hW.alike hK, hD⟩, hS.F ht⟩) hS.2.2 d_D_worth_71
      · replace hm := if_f c9 hm
        refine lv_aload_n hx hb d_D_worth_59 rfl (lv_at hl 1 rfl) ?_
        refine va_get (D := (dC, dI)) (ci := 5) (v := .ref dq11) (C := R_D) (T := F_D) (N := 20) hx hb hts hk2 hown hK hP 0 rfl rfl 10 (by decide) hk1 (fun _ h9 => h9) rfl d_D_worth_60 ?_
        refine lv_bipush (v := 10) hx hb d_D_worth_63 (by decide) ?_
        refine lv_iload_n hx hb d_D_worth_65 rfl (lv_at hl 2 rfl) ?_
        refine lv_imul hx hb d_D_worth_66 ?_
        refine lv_iload_n hx hb d_D_worth_67 rfl (lv_at hl 3 rfl) ?_
        refine lv_iadd hx hb d_D_worth_68 ?_
        refine lv_iload_n hx hb d_D_worth_69 rfl (lv_at hl 4 rfl) ?_
        obtain ⟨h9, hm⟩ := gd hm
        refine va_iast hx hb hK hP hD hS 4 0 rfl rfl h9 d_D_worth_70 (fun H locs hP hD hS => ?_)
        have hP : va_P (dC, dI) classes [(dq, .inr (5, [.int u10, .int d_today, .int d_cut, .int d_aging, .int d_saleFrom, .int d_pieces, .int d_orders, .ref dq8, .ref dq9, .ref dq10, .ref dq11, .ref dq12, .ref dq13, .ref dq14, .ref dq15, .int d_ran, .int d_sum, .ref dq18, .ref dq19, .ref dq20])), (dq8, .inl (cI, 40, .inl d_piece)), (dq9, .inl (cI, 40, .inl d_order)), (dq10, .inl (cI, 10, .inl d_came)), (dq11, .inl (cI, 100, .inl (upd d_worth ((10 * x1) + x2).toNatClampNeg x3))), (dq12, .inl (cZ, 10, .inl d_used)), (dq13, .inl (cI, 10, .inl d_usedBy)), (dq14, .inl (cI, 10, .inl d_reservedFor)), (dq15, .inl (cI, 10, .inl d_reservedTo)), (dq18, .inl (cI, 10, .inl d_pieceDual)), (dq19, .inl (cI, 10, .inl d_orderDual)), (dq20, .inl (cJ, 11264, .inr (.inl d_table)))] H := hP
        have hD : va_D A [(dq, .inr (5, [.int u10, .int d_today, .int d_cut, .int d_aging, .int d_saleFrom, .int d_pieces, .int d_orders, .ref dq8, .ref dq9, .ref dq10, .ref dq11, .ref dq12, .ref dq13, .ref dq14, .ref dq15, .int d_ran, .int d_sum, .ref dq18, .ref dq19, .ref dq20])), (dq8, .inl (cI, 40, .inl d_piece)), (dq9, .inl (cI, 40, .inl d_order)), (dq10, .inl (cI, 10, .inl d_came)), (dq11, .inl (cI, 100, .inl (upd d_worth ((10 * x1) + x2).toNatClampNeg x3))), (dq12, .inl (cZ, 10, .inl d_used)), (dq13, .inl (cI, 10, .inl d_usedBy)), (dq14, .inl (cI, 10, .inl d_reservedFor)), (dq15, .inl (cI, 10, .inl d_reservedTo)), (dq18, .inl (cI, 10, .inl d_pieceDual)), (dq19, .inl (cI, 10, .inl d_orderDual)), (dq20, .inl (cJ, 11264, .inr (.inl d_table)))] := hD
        cases hm
        refine W.widen (k := 0) (n := 0) (Nat.le_of_ble_eq_true rfl) (Nat.le_of_ble_eq_true rfl) ?_
        exact W.vret hx hb hr (fun t ht hW => ⟨⟨(), rfl, trivial, by rw [ht]; exact hP, va_K.moved hW.alike hK, hD⟩, hS.F ht⟩) hS.2.2 d_D_worth_71
    · replace hm := if_f c9 hm
      refine lv_iconst (v := 1) hx hb d_D_worth_16 (by decide) ?_
      refine lv_goto (tgt := 21) hx hb d_D_worth_17 (by decide) ?_
      refine lv_istore (lv' := [(4, .int 1), (0, .ref dq), (1, .int x1), (2, .int x2), (3, .int x3)]) hx hb d_D_worth_21 hl (by decide) rfl (fun ls hl => ?_)
      refine lv_aload_n hx hb d_D_worth_23 rfl (lv_at hl 1 rfl) ?_
      refine lv_iload hx hb d_D_worth_24 (lv_at hl 0 rfl) ?_
      refine lv_iload_n hx hb d_D_worth_26 rfl (lv_at hl 4 rfl) ?_
      refine lv_iconst (v := 0) hx hb d_D_worth_27 (by decide) ?_
      refine lv_ldc (v := 1000000) hx hb hown hk0 d_D_worth_28 ?_
      obtain ⟨r13, hc, hm⟩ := bd hm
      try dsimp only at hm
      refine vp_callSi (W.runS (As := [.int x3, .int 0, .int 1000000]) (rest := [.int 1, .ref dq]) ⟨hx, hb, hml, hown, hts⟩ (c_D_in l dC dI cI x3 0 1000000 N r13 hc) (cwS 3 hts (gS (w0 667 rfl) (w0 668 rfl) (w0 33 rfl) (w0 669 rfl)) rfl rfl rfl q_D_in ⟨Nat.le_of_ble_eq_true rfl, Nat.le_of_ble_eq_true rfl⟩) ro_pre0 rfl rfl hl.1 rfl (lv_room (Nat.le_of_ble_eq_true rfl)) d_D_worth_30 ⟨Nat.le_of_ble_eq_true rfl, Nat.le_of_ble_eq_true rfl⟩) (fun r9 hr9 => ?_)
      subst hr9
      refine lv_iload hx hb d_D_worth_33 (lv_at hl 0 rfl) ?_
      refine lv_if_eq (tgt := 51) hx hb d_D_worth_35 (by decide) (fun c9 => absurd c9 (by decide)) (fun c9 => ?_)
      clear c9
      refine lv_aload_n hx hb d_D_worth_38 rfl (lv_at hl 1 rfl) ?_
      refine lv_iload_n hx hb d_D_worth_39 rfl (lv_at hl 2 rfl) ?_
      refine lv_iload_n hx hb d_D_worth_40 rfl (lv_at hl 3 rfl) ?_
      obtain ⟨r14, hc, hm⟩ := bd hm
      try dsimp only at hm
      refine vp_callSi (W.runV (As := [.int x1, .int x2]) (rest := [.int r13, .int 1, .ref dq]) ⟨hx, hb, hml, hown, hts⟩ (c_D_isFit l dC dI cI cZ cJ dq dq8 dq9 dq10 dq11 dq12 dq13 dq14 dq15 dq18 dq19 dq20 d_thrown d_today d_cut d_aging d_saleFrom d_pieces d_orders d_piece d_order d_came d_worth d_used d_usedBy d_reservedFor d_reservedTo d_ran d_sum d_pieceDual d_orderDual d_table x1 x2 N r14 hc) (cwV 2 hts (gV (w0 688 rfl) (w0 689 rfl) (w0 21 rfl) (w0 33 rfl) (w0 690 rfl)) rfl rfl rfl q_D_isFit ⟨Nat.le_of_ble_eq_true rfl, Nat.le_of_ble_eq_true rfl⟩) (ro_preV [0, 1, 2, 3, 4, 5, 6, 7, 8, 9, 10, 11] rfl hK hP hN 5 0 (R_D, F_D, 20) rfl rfl) rfl rfl hl.1 rfl (lv_room (Nat.le_of_ble_eq_true rfl)) d_D_worth_41 ⟨Nat.le_of_ble_eq_true rfl, Nat.le_of_ble_eq_true rfl⟩) (fun r9 hr9 => ?_)
      subst hr9
      refine lv_if_eq (tgt := 51) hx hb d_D_worth_44 (by decide) (fun c9 => ?_) (fun c9 => ?_)
      · replace hm := if_t c9 hm
        refine lv_iconst (v := 0) hx hb d_D_worth_51 (by decide) ?_
        refine lv_iconst (v := 1) hx hb d_D_worth_52 (by decide) ?_
        obtain ⟨⟨r15, u16⟩, hc, hm⟩ := bd hm
        try dsimp only at hm
        have hPc := hP.sub (ws' := [(dq, .inr (5, [.int d_thrown, .int d_today, .int d_cut, .int d_aging, .int d_saleFrom, .int d_pieces, .int d_orders, .ref dq8, .ref dq9, .ref dq10, .ref dq11, .ref dq12, .ref dq13, .ref dq14, .ref dq15, .int d_ran, .int d_sum, .ref dq18, .ref dq19, .ref dq20])), (dq8, .inl (cI, 40, .inl d_piece)), (dq9, .inl (cI, 40, .inl d_order)), (dq10, .inl (cI, 10, .inl d_came)), (dq11, .inl (cI, 100, .inl d_worth)), (dq12, .inl (cZ, 10, .inl d_used)), (dq13, .inl (cI, 10, .inl d_usedBy)), (dq14, .inl (cI, 10, .inl d_reservedFor)), (dq15, .inl (cI, 10, .inl d_reservedTo)), (dq18, .inl (cI, 10, .inl d_pieceDual)), (dq19, .inl (cI, 10, .inl d_orderDual)), (dq20, .inl (cJ, 11264, .inr (.inl d_table)))]) [0, 1, 2, 3, 4, 5, 6, 7, 8, 9, 10, 11] rfl
        have hDc := hD.sub (ws' := [(dq, .inr (5, [.int d_thrown, .int d_today, .int d_cut, .int d_aging, .int d_saleFrom, .int d_pieces, .int d_orders, .ref dq8, .ref dq9, .ref dq10, .ref dq11, .ref dq12, .ref dq13, .ref dq14, .ref dq15, .int d_ran, .int d_sum, .ref dq18, .ref dq19, .ref dq20])), (dq8, .inl (cI, 40, .inl d_piece)), (dq9, .inl (cI, 40, .inl d_order)), (dq10, .inl (cI, 10, .inl d_came)), (dq11, .inl (cI, 100, .inl d_worth)), (dq12, .inl (cZ, 10, .inl d_used)), (dq13, .inl (cI, 10, .inl d_usedBy)), (dq14, .inl (cI, 10, .inl d_reservedFor)), (dq15, .inl (cI, 10, .inl d_reservedTo)), (dq18, .inl (cI, 10, .inl d_pieceDual)), (dq19, .inl (cI, 10, .inl d_orderDual)), (dq20, .inl (cJ, 11264, .inr (.inl d_table)))]) [0, 1, 2, 3, 4, 5, 6, 7, 8, 9, 10, 11] (by decide) rfl
        have hFc := va_free (wc := [(dq, .inr (5, [.int d_thrown, .int d_today, .int d_cut, .int d_aging, .int d_saleFrom, .int d_pieces, .int d_orders, .ref dq8, .ref dq9, .ref dq10, .ref dq11, .ref dq12, .ref dq13, .ref dq14, .ref dq15, .int d_ran, .int d_sum, .ref dq18, .ref dq19, .ref dq20])), (dq8, .inl (cI, 40, .inl d_piece)), (dq9, .inl (cI, 40, .inl d_order)), (dq10, .inl (cI, 10, .inl d_came)), (dq11, .inl (cI, 100, .inl d_worth)), (dq12, .inl (cZ, 10, .inl d_used)), (dq13, .inl (cI, 10, .inl d_usedBy)), (dq14, .inl (cI, 10, .inl d_reservedFor)), (dq15, .inl (cI, 10, .inl d_reservedTo)), (dq18, .inl (cI, 10, .inl d_pieceDual)), (dq19, .inl (cI, 10, .inl d_orderDual)), (dq20, .inl (cJ, 11264, .inr (.inl d_table)))]) hD hS hA [0, 1, 2, 3, 4, 5, 6, 7, 8, 9, 10, 11] rfl
        refine va_calli (va_runV (As := [.int 1, .int r13, .int 0, .int 1]) (rest := []) ⟨hx, hb, hml, hown, hts⟩ (c_D_goes l dC dI cI cZ cJ dq dq8 dq9 dq10 dq11 dq12 dq13 dq14 dq15 dq18 dq19 dq20 s.heap.size d_thrown d_today d_cut d_aging d_saleFrom d_pieces d_orders d_piece d_order d_came d_worth d_used d_usedBy d_reservedFor d_reservedTo d_ran d_sum d_pieceDual d_orderDual d_table 1 r13 0 1 N (r15, u16) hc) (cwV 4 hts (gV (w0 670 rfl) (w0 671 rfl) (w0 18 rfl) (w0 33 rfl) (w0 672 rfl)) rfl rfl rfl q_D_goes ⟨Nat.le_of_ble_eq_true rfl, Nat.le_of_ble_eq_true rfl⟩) (wr_preV hK hPc hDc hN 5 0 (R_D, F_D, 20) rfl rfl) rfl rfl hl.1 rfl (lv_room (Nat.le_of_ble_eq_true rfl)) d_D_worth_53 ⟨Nat.le_of_ble_eq_true rfl, Nat.le_of_ble_eq_true rfl⟩) hS (fun q _ h => hFc q h) hFc (fun r9 u t H1 locs ht hvm hw hB hz1 hk1 hS => ?_)
        subst hw
        obtain ⟨hP1, hK1, hD1⟩ := hB
        rw [ht] at hP1
        obtain ⟨hP, hD⟩ := va_join (wr := []) (w1 := [(dq, .inr (5, [.int u16, .int d_today, .int d_cut, .int d_aging, .int d_saleFrom, .int d_pieces, .int d_orders, .ref dq8, .ref dq9, .ref dq10, .ref dq11, .ref dq12, .ref dq13, .ref dq14, .ref dq15, .int d_ran, .int d_sum, .ref dq18, .ref dq19, .ref dq20])), (dq8, .inl (cI, 40, .inl d_piece)), (dq9, .inl (cI, 40, .inl d_order)), (dq10, .inl (cI, 10, .inl d_came)), (dq11, .inl (cI, 100, .inl d_worth)), (dq12, .inl (cZ, 10, .inl d_used)), (dq13, .inl (cI, 10, .inl d_usedBy)), (dq14, .inl (cI, 10, .inl d_reservedFor)), (dq15, .inl (cI, 10, .inl d_reservedTo)), (dq18, .inl (cI, 10, .inl d_pieceDual)), (dq19, .inl (cI, 10, .inl d_orderDual)), (dq20, .inl (cJ, 11264, .inr (.inl d_table)))]) hP hD [0, 1, 2, 3, 4, 5, 6, 7, 8, 9, 10, 11] [] rfl rfl (by decide) (by decide) hk1 hFc hP1 hD1
        generalize H1 = H at hP hS ⊢
        have hP : va_P (dC, dI) classes [(dq, .inr (5, [.int u16, .int d_today, .int d_cut, .int d_aging, .int d_saleFrom, .int d_pieces, .int d_orders, .ref dq8, .ref dq9, .ref dq10, .ref dq11, .ref dq12, .ref dq13, .ref dq14, .ref dq15, .int d_ran, .int d_sum, .ref dq18, .ref dq19, .ref dq20])), (dq8, .inl (cI, 40, .inl d_piece)), (dq9, .inl (cI, 40, .inl d_order)), (dq10, .inl (cI, 10, .inl d_came)), (dq11, .inl (cI, 100, .inl d_worth)), (dq12, .inl (cZ, 10, .inl d_used)), (dq13, .inl (cI, 10, .inl d_usedBy)), (dq14, .inl (cI, 10, .inl d_reservedFor)), (dq15, .inl (cI, 10, .inl d_reservedTo)), (dq18, .inl (cI, 10, .inl d_pieceDual)), (dq19, .inl (cI, 10, .inl d_orderDual)), (dq20, .inl (cJ, 11264, .inr (.inl d_table)))] H := hP
        have hD : va_D A [(dq, .inr (5, [.int u16, .int d_today, .int d_cut, .int d_aging, .int d_saleFrom, .int d_pieces, .int d_orders, .ref dq8, .ref dq9, .ref dq10, .ref dq11, .ref dq12, .ref dq13, .ref dq14, .ref dq15, .int d_ran, .int d_sum, .ref dq18, .ref dq19, .ref dq20])), (dq8, .inl (cI, 40, .inl d_piece)), (dq9, .inl (cI, 40, .inl d_order)), (dq10, .inl (cI, 10, .inl d_came)), (dq11, .inl (cI, 100, .inl d_worth)), (dq12, .inl (cZ, 10, .inl d_used)), (dq13, .inl (cI, 10, .inl d_usedBy)), (dq14, .inl (cI, 10, .inl d_reservedFor)), (dq15, .inl (cI, 10, .inl d_reservedTo)), (dq18, .inl (cI, 10, .inl d_pieceDual)), (dq19, .inl (cI, 10, .inl d_orderDual)), (dq20, .inl (cJ, 11264, .inr (.inl d_table)))] := hD
        clear hP1 hD1 hPc hDc hFc hk1 hz1
        refine lv_if_eq (tgt := 71) hx hb d_D_worth_56 (by decide) (fun c9 => ?_) (fun c9 => ?_)
        · replace hm := if_t c9 hm
          cases hm
          refine W.widen (k := 0) (n := 0) (Nat.le_of_ble_eq_true rfl) (Nat.le_of_ble_eq_true rfl) ?_
          exact W.vret hx hb hr (fun t ht hW => ⟨⟨(), rfl, trivial, by rw [ht]; exact hP, va_K.moved hW.alike hK, hD⟩, hS.F ht⟩) hS.2.2 d_D_worth_71
        · replace hm := if_f c9 hm
          refine lv_aload_n hx hb d_D_worth_59 rfl (lv_at hl 1 rfl) ?_
          refine va_get (D := (dC, dI)) (ci := 5) (v := .ref dq11) (C := R_D) (T := F_D) (N := 20) hx hb hts hk2 hown hK hP 0 rfl rfl 10 (by decide) hk1 (fun _ h9 => h9) rfl d_D_worth_60 ?_
          refine lv_bipush (v := 10) hx hb d_D_worth_63 (by decide) ?_
          refine lv_iload_n hx hb d_D_worth_65 rfl (lv_at hl 2 rfl) ?_
          refine lv_imul hx hb d_D_worth_66 ?_
          refine lv_iload_n hx hb d_D_worth_67 rfl (lv_at hl 3 rfl) ?_
          refine lv_iadd hx hb d_D_worth_68 ?_
          refine lv_iload_n hx hb d_D_worth_69 rfl (lv_at hl 4 rfl) ?_
          obtain ⟨h9, hm⟩ := gd hm
          refine va_iast hx hb hK hP hD hS 4 0 rfl rfl h9 d_D_worth_70 (fun H locs hP hD hS => ?_)
          have hP : va_P (dC, dI) classes [(dq, .inr (5, [.int u16, .int d_today, .int d_cut, .int d_aging, .int d_saleFrom, .int d_pieces, .int d_orders, .ref dq8, .ref dq9, .ref dq10, .ref dq11, .ref dq12, .ref dq13, .ref dq14, .ref dq15, .int d_ran, .int d_sum, .ref dq18, .ref dq19, .ref dq20])), (dq8, .inl (cI, 40, .inl d_piece)), (dq9, .inl (cI, 40, .inl d_order)), (dq10, .inl (cI, 10, .inl d_came)), (dq11, .inl (cI, 100, .inl (upd d_worth ((10 * x1) + x2).toNatClampNeg x3))), (dq12, .inl (cZ, 10, .inl d_used)), (dq13, .inl (cI, 10, .inl d_usedBy)), (dq14, .inl (cI, 10, .inl d_reservedFor)), (dq15, .inl (cI, 10, .inl d_reservedTo)), (dq18, .inl (cI, 10, .inl d_pieceDual)), (dq19, .inl (cI, 10, .inl d_orderDual)), (dq20, .inl (cJ, 11264, .inr (.inl d_table)))] H := hP
          have hD : va_D A [(dq, .inr (5, [.int u16, .int d_today, .int d_cut, .int d_aging, .int d_saleFrom, .int d_pieces, .int d_orders, .ref dq8, .ref dq9, .ref dq10, .ref dq11, .ref dq12, .ref dq13, .ref dq14, .ref dq15, .int d_ran, .int d_sum, .ref dq18, .ref dq19, .ref dq20])), (dq8, .inl (cI, 40, .inl d_piece)), (dq9, .inl (cI, 40, .inl d_order)), (dq10, .inl (cI, 10, .inl d_came)), (dq11, .inl (cI, 100, .inl (upd d_worth ((10 * x1) + x2).toNatClampNeg x3))), (dq12, .inl (cZ, 10, .inl d_used)), (dq13, .inl (cI, 10, .inl d_usedBy)), (dq14, .inl (cI, 10, .inl d_reservedFor)), (dq15, .inl (cI, 10, .inl d_reservedTo)), (dq18, .inl (cI, 10, .inl d_pieceDual)), (dq19, .inl (cI, 10, .inl d_orderDual)), (dq20, .inl (cJ, 11264, .inr (.inl d_table)))] := hD
          cases hm
          refine W.widen (k := 0) (n := 0) (Nat.le_of_ble_eq_true rfl) (Nat.le_of_ble_eq_true rfl) ?_
          exact W.vret hx hb hr (fun t ht hW => ⟨⟨(), rfl, trivial, by rw [ht]; exact hP, va_K.moved hW.alike hK, hD⟩, hS.F ht⟩) hS.2.2 d_D_worth_71
      · replace hm := if_f c9 hm
        refine lv_iconst (v := 1) hx hb d_D_worth_47 (by decide) ?_
        refine lv_goto (tgt := 52) hx hb d_D_worth_48 (by decide) ?_
        refine lv_iconst (v := 1) hx hb d_D_worth_52 (by decide) ?_
        obtain ⟨⟨r18, u19⟩, hc, hm⟩ := bd hm
        try dsimp only at hm
        have hPc := hP.sub (ws' := [(dq, .inr (5, [.int d_thrown, .int d_today, .int d_cut, .int d_aging, .int d_saleFrom, .int d_pieces, .int d_orders, .ref dq8, .ref dq9, .ref dq10, .ref dq11, .ref dq12, .ref dq13, .ref dq14, .ref dq15, .int d_ran, .int d_sum, .ref dq18, .ref dq19, .ref dq20])), (dq8, .inl (cI, 40, .inl d_piece)), (dq9, .inl (cI, 40, .inl d_order)), (dq10, .inl (cI, 10, .inl d_came)), (dq11, .inl (cI, 100, .inl d_worth)), (dq12, .inl (cZ, 10, .inl d_used)), (dq13, .inl (cI, 10, .inl d_usedBy)), (dq14, .inl (cI, 10, .inl d_reservedFor)), (dq15, .inl (cI, 10, .inl d_reservedTo)), (dq18, .inl (cI, 10, .inl d_pieceDual)), (dq19, .inl (cI, 10, .inl d_orderDual)), (dq20, .inl (cJ, 11264, .inr (.inl d_table)))]) [0, 1, 2, 3, 4, 5, 6, 7, 8, 9, 10, 11] rfl
        have hDc := hD.sub (ws' := [(dq, .inr (5, [.int d_thrown, .int d_today, .int d_cut, .int d_aging, .int d_saleFrom, .int d_pieces, .int d_orders, .ref dq8, .ref dq9, .ref dq10, .ref dq11, .ref dq12, .ref dq13, .ref dq14, .ref dq15, .int d_ran, .int d_sum, .ref dq18, .ref dq19, .ref dq20])), (dq8, .inl (cI, 40, .inl d_piece)), (dq9, .inl (cI, 40, .inl d_order)), (dq10, .inl (cI, 10, .inl d_came)), (dq11, .inl (cI, 100, .inl d_worth)), (dq12, .inl (cZ, 10, .inl d_used)), (dq13, .inl (cI, 10, .inl d_usedBy)), (dq14, .inl (cI, 10, .inl d_reservedFor)), (dq15, .inl (cI, 10, .inl d_reservedTo)), (dq18, .inl (cI, 10, .inl d_pieceDual)), (dq19, .inl (cI, 10, .inl d_orderDual)), (dq20, .inl (cJ, 11264, .inr (.inl d_table)))]) [0, 1, 2, 3, 4, 5, 6, 7, 8, 9, 10, 11] (by decide) rfl
        have hFc := va_free (wc := [(dq, .inr (5, [.int d_thrown, .int d_today, .int d_cut, .int d_aging, .int d_saleFrom, .int d_pieces, .int d_orders, .ref dq8, .ref dq9, .ref dq10, .ref dq11, .ref dq12, .ref dq13, .ref dq14, .ref dq15, .int d_ran, .int d_sum, .ref dq18, .ref dq19, .ref dq20])), (dq8, .inl (cI, 40, .inl d_piece)), (dq9, .inl (cI, 40, .inl d_order)), (dq10, .inl (cI, 10, .inl d_came)), (dq11, .inl (cI, 100, .inl d_worth)), (dq12, .inl (cZ, 10, .inl d_used)), (dq13, .inl (cI, 10, .inl d_usedBy)), (dq14, .inl (cI, 10, .inl d_reservedFor)), (dq15, .inl (cI, 10, .inl d_reservedTo)), (dq18, .inl (cI, 10, .inl d_pieceDual)), (dq19, .inl (cI, 10, .inl d_orderDual)), (dq20, .inl (cJ, 11264, .inr (.inl d_table)))]) hD hS hA [0, 1, 2, 3, 4, 5, 6, 7, 8, 9, 10, 11] rfl
        refine va_calli (va_runV (As := [.int 1, .int r13, .int 1, .int 1]) (rest := []) ⟨hx, hb, hml, hown, hts⟩ (c_D_goes l dC dI cI cZ cJ dq dq8 dq9 dq10 dq11 dq12 dq13 dq14 dq15 dq18 dq19 dq20 s.heap.size d_thrown d_today d_cut d_aging d_saleFrom d_pieces d_orders d_piece d_order d_came d_worth d_used d_usedBy d_reservedFor d_reservedTo d_ran d_sum d_pieceDual d_orderDual d_table 1 r13 1 1 N (r18, u19) hc) (cwV 4 hts (gV (w0 670 rfl) (w0 671 rfl) (w0 18 rfl) (w0 33 rfl) (w0 672 rfl)) rfl rfl rfl q_D_goes ⟨Nat.le_of_ble_eq_true rfl, Nat.le_of_ble_eq_true rfl⟩) (wr_preV hK hPc hDc hN 5 0 (R_D, F_D, 20) rfl rfl) rfl rfl hl.1 rfl (lv_room (Nat.le_of_ble_eq_true rfl)) d_D_worth_53 ⟨Nat.le_of_ble_eq_true rfl, Nat.le_of_ble_eq_true rfl⟩) hS (fun q _ h => hFc q h) hFc (fun r9 u t H1 locs ht hvm hw hB hz1 hk1 hS => ?_)
        subst hw
        obtain ⟨hP1, hK1, hD1⟩ := hB
        rw [ht] at hP1
        obtain ⟨hP, hD⟩ := va_join (wr := []) (w1 := [(dq, .inr (5, [.int u19, .int d_today, .int d_cut, .int d_aging, .int d_saleFrom, .int d_pieces, .int d_orders, .ref dq8, .ref dq9, .ref dq10, .ref dq11, .ref dq12, .ref dq13, .ref dq14, .ref dq15, .int d_ran, .int d_sum, .ref dq18, .ref dq19, .ref dq20])), (dq8, .inl (cI, 40, .inl d_piece)), (dq9, .inl (cI, 40, .inl d_order)), (dq10, .inl (cI, 10, .inl d_came)), (dq11, .inl (cI, 100, .inl d_worth)), (dq12, .inl (cZ, 10, .inl d_used)), (dq13, .inl (cI, 10, .inl d_usedBy)), (dq14, .inl (cI, 10, .inl d_reservedFor)), (dq15, .inl (cI, 10, .inl d_reservedTo)), (dq18, .inl (cI, 10, .inl d_pieceDual)), (dq19, .inl (cI, 10, .inl d_orderDual)), (dq20, .inl (cJ, 11264, .inr (.inl d_table)))]) hP hD [0, 1, 2, 3, 4, 5, 6, 7, 8, 9, 10, 11] [] rfl rfl (by decide) (by decide) hk1 hFc hP1 hD1
        generalize H1 = H at hP hS ⊢
        have hP : va_P (dC, dI) classes [(dq, .inr (5, [.int u19, .int d_today, .int d_cut, .int d_aging, .int d_saleFrom, .int d_pieces, .int d_orders, .ref dq8, .ref dq9, .ref dq10, .ref dq11, .ref dq12, .ref dq13, .ref dq14, .ref dq15, .int d_ran, .int d_sum, .ref dq18, .ref dq19, .ref dq20])), (dq8, .inl (cI, 40, .inl d_piece)), (dq9, .inl (cI, 40, .inl d_order)), (dq10, .inl (cI, 10, .inl d_came)), (dq11, .inl (cI, 100, .inl d_worth)), (dq12, .inl (cZ, 10, .inl d_used)), (dq13, .inl (cI, 10, .inl d_usedBy)), (dq14, .inl (cI, 10, .inl d_reservedFor)), (dq15, .inl (cI, 10, .inl d_reservedTo)), (dq18, .inl (cI, 10, .inl d_pieceDual)), (dq19, .inl (cI, 10, .inl d_orderDual)), (dq20, .inl (cJ, 11264, .inr (.inl d_table)))] H := hP
        have hD : va_D A [(dq, .inr (5, [.int u19, .int d_today, .int d_cut, .int d_aging, .int d_saleFrom, .int d_pieces, .int d_orders, .ref dq8, .ref dq9, .ref dq10, .ref dq11, .ref dq12, .ref dq13, .ref dq14, .ref dq15, .int d_ran, .int d_sum, .ref dq18, .ref dq19, .ref dq20])), (dq8, .inl (cI, 40, .inl d_piece)), (dq9, .inl (cI, 40, .inl d_order)), (dq10, .inl (cI, 10, .inl d_came)), (dq11, .inl (cI, 100, .inl d_worth)), (dq12, .inl (cZ, 10, .inl d_used)), (dq13, .inl (cI, 10, .inl d_usedBy)), (dq14, .inl (cI, 10, .inl d_reservedFor)), (dq15, .inl (cI, 10, .inl d_reservedTo)), (dq18, .inl (cI, 10, .inl d_pieceDual)), (dq19, .inl (cI, 10, .inl d_orderDual)), (dq20, .inl (cJ, 11264, .inr (.inl d_table)))] := hD
        clear hP1 hD1 hPc hDc hFc hk1 hz1
        refine lv_if_eq (tgt := 71) hx hb d_D_worth_56 (by decide) (fun c9 => ?_) (fun c9 => ?_)
        · replace hm := if_t c9 hm
          cases hm
          refine W.widen (k := 0) (n := 0) (Nat.le_of_ble_eq_true rfl) (Nat.le_of_ble_eq_true rfl) ?_
          exact W.vret hx hb hr (fun t ht hW => ⟨⟨(), rfl, trivial, by rw [ht]; exact hP, va_K.moved hW.alike hK, hD⟩, hS.F ht⟩) hS.2.2 d_D_worth_71
        · replace hm := if_f c9 hm
          refine lv_aload_n hx hb d_D_worth_59 rfl (lv_at hl 1 rfl) ?_
          refine va_get (D := (dC, dI)) (ci := 5) (v := .ref dq11) (C := R_D) (T := F_D) (N := 20) hx hb hts hk2 hown hK hP 0 rfl rfl 10 (by decide) hk1 (fun _ h9 => h9) rfl d_D_worth_60 ?_
          refine lv_bipush (v := 10) hx hb d_D_worth_63 (by decide) ?_
          refine lv_iload_n hx hb d_D_worth_65 rfl (lv_at hl 2 rfl) ?_
          refine lv_imul hx hb d_D_worth_66 ?_
          refine lv_iload_n hx hb d_D_worth_67 rfl (lv_at hl 3 rfl) ?_
          refine lv_iadd hx hb d_D_worth_68 ?_
          refine lv_iload_n hx hb d_D_worth_69 rfl (lv_at hl 4 rfl) ?_
          obtain ⟨h9, hm⟩ := gd hm
          refine va_iast hx hb hK hP hD hS 4 0 rfl rfl h9 d_D_worth_70 (fun H locs hP hD hS => ?_)
          have hP : va_P (dC, dI) classes [(dq, .inr (5, [.int u19, .int d_today, .int d_cut, .int d_aging, .int d_saleFrom, .int d_pieces, .int d_orders, .ref dq8, .ref dq9, .ref dq10, .ref dq11, .ref dq12, .ref dq13, .ref dq14, .ref dq15, .int d_ran, .int d_sum, .ref dq18, .ref dq19, .ref dq20])), (dq8, .inl (cI, 40, .inl d_piece)), (dq9, .inl (cI, 40, .inl d_order)), (dq10, .inl (cI, 10, .inl d_came)), (dq11, .inl (cI, 100, .inl (upd d_worth ((10 * x1) + x2).toNatClampNeg x3))), (dq12, .inl (cZ, 10, .inl d_used)), (dq13, .inl (cI, 10, .inl d_usedBy)), (dq14, .inl (cI, 10, .inl d_reservedFor)), (dq15, .inl (cI, 10, .inl d_reservedTo)), (dq18, .inl (cI, 10, .inl d_pieceDual)), (dq19, .inl (cI, 10, .inl d_orderDual)), (dq20, .inl (cJ, 11264, .inr (.inl d_table)))] H := hP
          have hD : va_D A [(dq, .inr (5, [.int u19, .int d_today, .int d_cut, .int d_aging, .int d_saleFrom, .int d_pieces, .int d_orders, .ref dq8, .ref dq9, .ref dq10, .ref dq11, .ref dq12, .ref dq13, .ref dq14, .ref dq15, .int d_ran, .int d_sum, .ref dq18, .ref dq19, .ref dq20])), (dq8, .inl (cI, 40, .inl d_piece)), (dq9, .inl (cI, 40, .inl d_order)), (dq10, .inl (cI, 10, .inl d_came)), (dq11, .inl (cI, 100, .inl (upd d_worth ((10 * x1) + x2).toNatClampNeg x3))), (dq12, .inl (cZ, 10, .inl d_used)), (dq13, .inl (cI, 10, .inl d_usedBy)), (dq14, .inl (cI, 10, .inl d_reservedFor)), (dq15, .inl (cI, 10, .inl d_reservedTo)), (dq18, .inl (cI, 10, .inl d_pieceDual)), (dq19, .inl (cI, 10, .inl d_orderDual)), (dq20, .inl (cJ, 11264, .inr (.inl d_table)))] := hD
          cases hm
          refine W.widen (k := 0) (n := 0) (Nat.le_of_ble_eq_true rfl) (Nat.le_of_ble_eq_true rfl) ?_
          exact W.vret hx hb hr (fun t ht hW => ⟨⟨(), rfl, trivial, by rw [ht]; exact hP, va_K.moved hW.alike hK, hD⟩, hS.F ht⟩) hS.2.2 d_D_worth_71

def w_D_rules : List Cond := .code y_D_rules b_D_rules 4 none :: W0
theorem q_D_rules : y_D_rules.cls = R_D ∧ y_D_rules.cls ≠ "java/lang/invoke/MethodHandle" ∧ y_D_rules.cls ≠ "java/lang/invoke/VarHandle" ∧ (parseMethodDescriptor y_D_rules.desc).map (fun d => d.parameters.length) = some 3 := by decide +kernel
def m_D_rules (d_cut : Int32) (d_aging : Int32) (d_saleFrom : Int32) (x1 : Int32) (x2 : Int32) (x3 : Int32) : Option (Int32 × Int32 × Int32 × Int32) :=
  ((m_D_in x1 0 1000).bind fun r1 =>
  (if r1 = 0 then
    ((m_D_goes 0 1 1 1).bind fun (r2, u3) =>
      (if r2 = 0 then
        some (u3, d_cut, d_aging, d_saleFrom)
       else
        some (u3, x1, x2, x3)))
   else
    ((m_D_in x2 0 1000).bind fun r5 =>
      (if r5 = 0 then
        ((m_D_goes 0 1 1 1).bind fun (r6, u7) =>
          (if r6 = 0 then
            some (u7, d_cut, d_aging, d_saleFrom)
           else
            some (u7, x1, x2, x3)))
       else
        ((m_D_in x3 0 9999).bind fun r9 =>
          (if r9 = 0 then
            ((m_D_goes 0 1 1 1).bind fun (r10, u11) =>
              (if r10 = 0 then
                some (u11, d_cut, d_aging, d_saleFrom)
               else
                some (u11, x1, x2, x3)))
           else
            ((m_D_goes 1 1 1 1).bind fun (r13, u14) =>
              (if r13 = 0 then
                some (u14, d_cut, d_aging, d_saleFrom)
               else
                some (u14, x1, x2, x3)))))))))
set_option maxHeartbeats 4000000 in
set_option maxRecDepth 100000 in
theorem c_D_rules (l : Launch) (dC : Nat → ClassId) (dI : Nat → Nat → Nat) (cI cZ cJ : ClassId) (dq dq8 dq9 dq10 dq11 dq12 dq13 dq14 dq15 dq18 dq19 dq20 : Nat) (sz : Nat) (d_thrown : Int32) (d_today : Int32) (d_cut : Int32) (d_aging : Int32) (d_saleFrom : Int32) (d_pieces : Int32) (d_orders : Int32) (d_piece : Nat → Int32) (d_order : Nat → Int32) (d_came : Nat → Int32) (d_worth : Nat → Int32) (d_used : Nat → Int32) (d_usedBy : Nat → Int32) (d_reservedFor : Nat → Int32) (d_reservedTo : Nat → Int32) (d_ran : Int32) (d_sum : Int32) (d_pieceDual : Nat → Int32) (d_orderDual : Nat → Int32) (d_table : Nat → Int64) (x1 : Int32) (x2 : Int32) (x3 : Int32) (N : Nat) (res : Int32 × Int32 × Int32 × Int32) (hm : m_D_rules d_cut d_aging d_saleFrom x1 x2 x3 = some res) : Met l y_D_rules w_D_rules ({ frames := 1, cells := 0, slots := 0, locals := 24 } : Room) (va_Pc [.ref dq, .int x1, .int x2, .int x3] (fun U => U.heap.size = sz ∧ va_P (dC, dI) classes [(dq, .inr (5, [.int d_thrown, .int d_today, .int d_cut, .int d_aging, .int d_saleFrom, .int d_pieces, .int d_orders, .ref dq8, .ref dq9, .ref dq10, .ref dq11, .ref dq12, .ref dq13, .ref dq14, .ref dq15, .int d_ran, .int d_sum, .ref dq18, .ref dq19, .ref dq20])), (dq8, .inl (cI, 40, .inl d_piece)), (dq9, .inl (cI, 40, .inl d_order)), (dq10, .inl (cI, 10, .inl d_came)), (dq11, .inl (cI, 100, .inl d_worth)), (dq12, .inl (cZ, 10, .inl d_used)), (dq13, .inl (cI, 10, .inl d_usedBy)), (dq14, .inl (cI, 10, .inl d_reservedFor)), (dq15, .inl (cI, 10, .inl d_reservedTo)), (dq18, .inl (cI, 10, .inl d_pieceDual)), (dq19, .inl (cI, 10, .inl d_orderDual)), (dq20, .inl (cJ, 11264, .inr (.inl d_table)))] U.heap ∧ va_K (dC, dI) classes [(cI, .int), (cZ, .boolean), (cJ, .long)] U ∧ va_D (fun _ => True) [(dq, .inr (5, [.int d_thrown, .int d_today, .int d_cut, .int d_aging, .int d_saleFrom, .int d_pieces, .int d_orders, .ref dq8, .ref dq9, .ref dq10, .ref dq11, .ref dq12, .ref dq13, .ref dq14, .ref dq15, .int d_ran, .int d_sum, .ref dq18, .ref dq19, .ref dq20])), (dq8, .inl (cI, 40, .inl d_piece)), (dq9, .inl (cI, 40, .inl d_order)), (dq10, .inl (cI, 10, .inl d_came)), (dq11, .inl (cI, 100, .inl d_worth)), (dq12, .inl (cZ, 10, .inl d_used)), (dq13, .inl (cI, 10, .inl d_usedBy)), (dq14, .inl (cI, 10, .inl d_reservedFor)), (dq15, .inl (cI, 10, .inl d_reservedTo)), (dq18, .inl (cI, 10, .inl d_pieceDual)), (dq19, .inl (cI, 10, .inl d_orderDual)), (dq20, .inl (cJ, 11264, .inr (.inl d_table)))] ∧ nw U)) (va_Qv (fun _ : Unit => True) (fun _ t => va_P (dC, dI) classes [(dq, .inr (5, [.int res.1, .int d_today, .int res.2.1, .int res.2.2.1, .int res.2.2.2, .int d_pieces, .int d_orders, .ref dq8, .ref dq9, .ref dq10, .ref dq11, .ref dq12, .ref dq13, .ref dq14, .ref dq15, .int d_ran, .int d_sum, .ref dq18, .ref dq19, .ref dq20])), (dq8, .inl (cI, 40, .inl d_piece)), (dq9, .inl (cI, 40, .inl d_order)), (dq10, .inl (cI, 10, .inl d_came)), (dq11, .inl (cI, 100, .inl d_worth)), (dq12, .inl (cZ, 10, .inl d_used)), (dq13, .inl (cI, 10, .inl d_usedBy)), (dq14, .inl (cI, 10, .inl d_reservedFor)), (dq15, .inl (cI, 10, .inl d_reservedTo)), (dq18, .inl (cI, 10, .inl d_pieceDual)), (dq19, .inl (cI, 10, .inl d_orderDual)), (dq20, .inl (cJ, 11264, .inr (.inl d_table)))] t.heap ∧ va_K (dC, dI) classes [(cI, .int), (cZ, .boolean), (cJ, .long)] t ∧ va_D (va_A [(dq, .inr (5, [.int d_thrown, .int d_today, .int d_cut, .int d_aging, .int d_saleFrom, .int d_pieces, .int d_orders, .ref dq8, .ref dq9, .ref dq10, .ref dq11, .ref dq12, .ref dq13, .ref dq14, .ref dq15, .int d_ran, .int d_sum, .ref dq18, .ref dq19, .ref dq20])), (dq8, .inl (cI, 40, .inl d_piece)), (dq9, .inl (cI, 40, .inl d_order)), (dq10, .inl (cI, 10, .inl d_came)), (dq11, .inl (cI, 100, .inl d_worth)), (dq12, .inl (cZ, 10, .inl d_used)), (dq13, .inl (cI, 10, .inl d_usedBy)), (dq14, .inl (cI, 10, .inl d_reservedFor)), (dq15, .inl (cI, 10, .inl d_reservedTo)), (dq18, .inl (cI, 10, .inl d_pieceDual)), (dq19, .inl (cI, 10, .inl d_orderDual)), (dq20, .inl (cJ, 11264, .inr (.inl d_table)))] sz) [(dq, .inr (5, [.int res.1, .int d_today, .int res.2.1, .int res.2.2.1, .int res.2.2.2, .int d_pieces, .int d_orders, .ref dq8, .ref dq9, .ref dq10, .ref dq11, .ref dq12, .ref dq13, .ref dq14, .ref dq15, .int d_ran, .int d_sum, .ref dq18, .ref dq19, .ref dq20])), (dq8, .inl (cI, 40, .inl d_piece)), (dq9, .inl (cI, 40, .inl d_order)), (dq10, .inl (cI, 10, .inl d_came)), (dq11, .inl (cI, 100, .inl d_worth)), (dq12, .inl (cZ, 10, .inl d_used)), (dq13, .inl (cI, 10, .inl d_usedBy)), (dq14, .inl (cI, 10, .inl d_reservedFor)), (dq15, .inl (cI, 10, .inl d_reservedTo)), (dq18, .inl (cI, 10, .inl d_pieceDual)), (dq19, .inl (cI, 10, .inl d_orderDual)), (dq20, .inl (cJ, 11264, .inr (.inl d_table)))]) (va_A [(dq, .inr (5, [.int d_thrown, .int d_today, .int d_cut, .int d_aging, .int d_saleFrom, .int d_pieces, .int d_orders, .ref dq8, .ref dq9, .ref dq10, .ref dq11, .ref dq12, .ref dq13, .ref dq14, .ref dq15, .int d_ran, .int d_sum, .ref dq18, .ref dq19, .ref dq20])), (dq8, .inl (cI, 40, .inl d_piece)), (dq9, .inl (cI, 40, .inl d_order)), (dq10, .inl (cI, 10, .inl d_came)), (dq11, .inl (cI, 100, .inl d_worth)), (dq12, .inl (cZ, 10, .inl d_used)), (dq13, .inl (cI, 10, .inl d_usedBy)), (dq14, .inl (cI, 10, .inl d_reservedFor)), (dq15, .inl (cI, 10, .inl d_reservedTo)), (dq18, .inl (cI, 10, .inl d_pieceDual)), (dq19, .inl (cI, 10, .inl d_orderDual)), (dq20, .inl (cJ, 11264, .inr (.inl d_table)))] sz)) 0 0 (va_A [(dq, .inr (5, [.int d_thrown, .int d_today, .int d_cut, .int d_aging, .int d_saleFrom, .int d_pieces, .int d_orders, .ref dq8, .ref dq9, .ref dq10, .ref dq11, .ref dq12, .ref dq13, .ref dq14, .ref dq15, .int d_ran, .int d_sum, .ref dq18, .ref dq19, .ref dq20])), (dq8, .inl (cI, 40, .inl d_piece)), (dq9, .inl (cI, 40, .inl d_order)), (dq10, .inl (cI, 10, .inl d_came)), (dq11, .inl (cI, 100, .inl d_worth)), (dq12, .inl (cZ, 10, .inl d_used)), (dq13, .inl (cI, 10, .inl d_usedBy)), (dq14, .inl (cI, 10, .inl d_reservedFor)), (dq15, .inl (cI, 10, .inl d_reservedTo)), (dq18, .inl (cI, 10, .inl d_pieceDual)), (dq19, .inl (cI, 10, .inl d_orderDual)), (dq20, .inl (cJ, 11264, .inr (.inl d_table)))] sz) := by
  unfold m_D_rules at hm
  refine Met.ofW (cc := b_D_rules) (maxL := 4) (ret := none) (by decide) rfl ?_
  intro p e s m args below meth c s₁ B hml hv
  obtain ⟨rfl, hsz, hP, hK, hD0, hN⟩ := hv
  have hx := B.exec
  have hb := B.bytes
  have hr := B.returns
  have hts := atoms_spec (ws := w_D_rules) B.pre
  have hown : s.vm.findClass R_D = some m.cls := findClass_of_methodNamed B.named
  have hlocks := B.notSynchronized
  subst hsz
  have hD := hD0.self (sz := s.heap.size)
  generalize hAe : va_A [(dq, .inr (5, [.int d_thrown, .int d_today, .int d_cut, .int d_aging, .int d_saleFrom, .int d_pieces, .int d_orders, .ref dq8, .ref dq9, .ref dq10, .ref dq11, .ref dq12, .ref dq13, .ref dq14, .ref dq15, .int d_ran, .int d_sum, .ref dq18, .ref dq19, .ref dq20])), (dq8, .inl (cI, 40, .inl d_piece)), (dq9, .inl (cI, 40, .inl d_order)), (dq10, .inl (cI, 10, .inl d_came)), (dq11, .inl (cI, 100, .inl d_worth)), (dq12, .inl (cZ, 10, .inl d_used)), (dq13, .inl (cI, 10, .inl d_usedBy)), (dq14, .inl (cI, 10, .inl d_reservedFor)), (dq15, .inl (cI, 10, .inl d_reservedTo)), (dq18, .inl (cI, 10, .inl d_pieceDual)), (dq19, .inl (cI, 10, .inl d_orderDual)), (dq20, .inl (cJ, 11264, .inr (.inl d_table)))] s.heap.size = A at hD ⊢
  have hA : ∀ q : Nat, s.heap.size ≤ q → A q := fun q h => by rw [← hAe]; exact Or.inr h
  have hS : va_S A s.heap s.heap [] := va_S.rf
  have hk0 := hts (.fieldLink R_D 89 "SurplusMatchModel" "cut" "I") (List.mem_cons_of_mem _ (w0 595 rfl))
  have hk1 : ∀ w ∈ w_D, w ∈ w_D_rules := fun w h => List.mem_cons_of_mem _ (i_D w h)
  have hk2 := hts (.fieldLink R_D 92 "SurplusMatchModel" "aging" "I") (List.mem_cons_of_mem _ (w0 596 rfl))
  have hk3 := hts (.fieldLink R_D 7 "SurplusMatchModel" "saleFrom" "I") (List.mem_cons_of_mem _ (w0 597 rfl))
  have hl := lv_entry ([.ref dq, .int x1, .int x2, .int x3]) (n := 4) (Nat.le_of_ble_eq_true rfl)
  rw [lg_entry_eq]
  generalize (lg_sl ([.ref dq, .int x1, .int x2, .int x3]) ++ List.replicate (4 - (lg_sl ([.ref dq, .int x1, .int x2, .int x3])).length) Slot.unset).toArray = ls at hl ⊢
  have hl : lv_has ls 4 [(0, .ref dq), (1, .int x1), (2, .int x2), (3, .int x3)] := hl
  refine lv_aload_n hx hb d_D_rules_0 rfl (lv_at hl 0 rfl) ?_
  refine lv_iload_n hx hb d_D_rules_1 rfl (lv_at hl 1 rfl) ?_
  refine lv_iconst (v := 0) hx hb d_D_rules_2 (by decide) ?_
  refine lv_sipush (v := 1000) hx hb d_D_rules_3 (by decide) ?_
  obtain ⟨r1, hc, hm⟩ := bd hm
  try dsimp only at hm
  refine vp_callSi (W.runS (As := [.int x1, .int 0, .int 1000]) (rest := [.ref dq]) ⟨hx, hb, hml, hown, hts⟩ (c_D_in l dC dI cI x1 0 1000 N r1 hc) (cwS 3 hts (gS (w0 667 rfl) (w0 668 rfl) (w0 33 rfl) (w0 669 rfl)) rfl rfl rfl q_D_in ⟨Nat.le_of_ble_eq_true rfl, Nat.le_of_ble_eq_true rfl⟩) ro_pre0 rfl rfl hl.1 rfl (lv_room (Nat.le_of_ble_eq_true rfl)) d_D_rules_6 ⟨Nat.le_of_ble_eq_true rfl, Nat.le_of_ble_eq_true rfl⟩) (fun r9 hr9 => ?_)
  subst hr9
  refine lv_if_eq (tgt := 38) hx hb d_D_rules_9 (by decide) (fun c9 => ?_) (fun c9 => ?_)
  · replace hm := if_t c9 hm
    refine lv_iconst (v := 0) hx hb d_D_rules_38 (by decide) ?_
    refine lv_iconst (v := 1) hx hb d_D_rules_39 (by decide) ?_
    refine lv_iconst (v := 1) hx hb d_D_rules_40 (by decide) ?_
    refine lv_iconst (v := 1) hx hb d_D_rules_41 (by decide) ?_
    obtain ⟨⟨r2, u3⟩, hc, hm⟩ := bd hm
    try dsimp only at hm
    have hPc := hP.sub (ws' := [(dq, .inr (5, [.int d_thrown, .int d_today, .int d_cut, .int d_aging, .int d_saleFrom, .int d_pieces, .int d_orders, .ref dq8, .ref dq9, .ref dq10, .ref dq11, .ref dq12, .ref dq13, .ref dq14, .ref dq15, .int d_ran, .int d_sum, .ref dq18, .ref dq19, .ref dq20])), (dq8, .inl (cI, 40, .inl d_piece)), (dq9, .inl (cI, 40, .inl d_order)), (dq10, .inl (cI, 10, .inl d_came)), (dq11, .inl (cI, 100, .inl d_worth)), (dq12, .inl (cZ, 10, .inl d_used)), (dq13, .inl (cI, 10, .inl d_usedBy)), (dq14, .inl (cI, 10, .inl d_reservedFor)), (dq15, .inl (cI, 10, .inl d_reservedTo)), (dq18, .inl (cI, 10, .inl d_pieceDual)), (dq19, .inl (cI, 10, .inl d_orderDual)), (dq20, .inl (cJ, 11264, .inr (.inl d_table)))]) [0, 1, 2, 3, 4, 5, 6, 7, 8, 9, 10, 11] rfl
    have hDc := hD.sub (ws' := [(dq, .inr (5, [.int d_thrown, .int d_today, .int d_cut, .int d_aging, .int d_saleFrom, .int d_pieces, .int d_orders, .ref dq8, .ref dq9, .ref dq10, .ref dq11, .ref dq12, .ref dq13, .ref dq14, .ref dq15, .int d_ran, .int d_sum, .ref dq18, .ref dq19, .ref dq20])), (dq8, .inl (cI, 40, .inl d_piece)), (dq9, .inl (cI, 40, .inl d_order)), (dq10, .inl (cI, 10, .inl d_came)), (dq11, .inl (cI, 100, .inl d_worth)), (dq12, .inl (cZ, 10, .inl d_used)), (dq13, .inl (cI, 10, .inl d_usedBy)), (dq14, .inl (cI, 10, .inl d_reservedFor)), (dq15, .inl (cI, 10, .inl d_reservedTo)), (dq18, .inl (cI, 10, .inl d_pieceDual)), (dq19, .inl (cI, 10, .inl d_orderDual)), (dq20, .inl (cJ, 11264, .inr (.inl d_table)))]) [0, 1, 2, 3, 4, 5, 6, 7, 8, 9, 10, 11] (by decide) rfl
    have hFc := va_free (wc := [(dq, .inr (5, [.int d_thrown, .int d_today, .int d_cut, .int d_aging, .int d_saleFrom, .int d_pieces, .int d_orders, .ref dq8, .ref dq9, .ref dq10, .ref dq11, .ref dq12, .ref dq13, .ref dq14, .ref dq15, .int d_ran, .int d_sum, .ref dq18, .ref dq19, .ref dq20])), (dq8, .inl (cI, 40, .inl d_piece)), (dq9, .inl (cI, 40, .inl d_order)), (dq10, .inl (cI, 10, .inl d_came)), (dq11, .inl (cI, 100, .inl d_worth)), (dq12, .inl (cZ, 10, .inl d_used)), (dq13, .inl (cI, 10, .inl d_usedBy)), (dq14, .inl (cI, 10, .inl d_reservedFor)), (dq15, .inl (cI, 10, .inl d_reservedTo)), (dq18, .inl (cI, 10, .inl d_pieceDual)), (dq19, .inl (cI, 10, .inl d_orderDual)), (dq20, .inl (cJ, 11264, .inr (.inl d_table)))]) hD hS hA [0, 1, 2, 3, 4, 5, 6, 7, 8, 9, 10, 11] rfl
    refine va_calli (va_runV (As := [.int 0, .int 1, .int 1, .int 1]) (rest := []) ⟨hx, hb, hml, hown, hts⟩ (c_D_goes l dC dI cI cZ cJ dq dq8 dq9 dq10 dq11 dq12 dq13 dq14 dq15 dq18 dq19 dq20 s.heap.size d_thrown d_today d_cut d_aging d_saleFrom d_pieces d_orders d_piece d_order d_came d_worth d_used d_usedBy d_reservedFor d_reservedTo d_ran d_sum d_pieceDual d_orderDual d_table 0 1 1 1 N (r2, u3) hc) (cwV 4 hts (gV (w0 670 rfl) (w0 671 rfl) (w0 18 rfl) (w0 33 rfl) (w0 672 rfl)) rfl rfl rfl q_D_goes ⟨Nat.le_of_ble_eq_true rfl, Nat.le_of_ble_eq_true rfl⟩) (wr_preV hK hPc hDc hN 5 0 (R_D, F_D, 20) rfl rfl) rfl rfl hl.1 rfl (lv_room (Nat.le_of_ble_eq_true rfl)) d_D_rules_42 ⟨Nat.le_of_ble_eq_true rfl, Nat.le_of_ble_eq_true rfl⟩) hS (fun q _ h => hFc q h) hFc (fun r9 u t H1 locs ht hvm hw hB hz1 hk1 hS => ?_)
    subst hw
    obtain ⟨hP1, hK1, hD1⟩ := hB
    rw [ht] at hP1
    obtain ⟨hP, hD⟩ := va_join (wr := []) (w1 := [(dq, .inr (5, [.int u3, .int d_today, .int d_cut, .int d_aging, .int d_saleFrom, .int d_pieces, .int d_orders, .ref dq8, .ref dq9, .ref dq10, .ref dq11, .ref dq12, .ref dq13, .ref dq14, .ref dq15, .int d_ran, .int d_sum, .ref dq18, .ref dq19, .ref dq20])), (dq8, .inl (cI, 40, .inl d_piece)), (dq9, .inl (cI, 40, .inl d_order)), (dq10, .inl (cI, 10, .inl d_came)), (dq11, .inl (cI, 100, .inl d_worth)), (dq12, .inl (cZ, 10, .inl d_used)), (dq13, .inl (cI, 10, .inl d_usedBy)), (dq14, .inl (cI, 10, .inl d_reservedFor)), (dq15, .inl (cI, 10, .inl d_reservedTo)), (dq18, .inl (cI, 10, .inl d_pieceDual)), (dq19, .inl (cI, 10, .inl d_orderDual)), (dq20, .inl (cJ, 11264, .inr (.inl d_table)))]) hP hD [0, 1, 2, 3, 4, 5, 6, 7, 8, 9, 10, 11] [] rfl rfl (by decide) (by decide) hk1 hFc hP1 hD1
    generalize H1 = H at hP hS ⊢
    have hP : va_P (dC, dI) classes [(dq, .inr (5, [.int u3, .int d_today, .int d_cut, .int d_aging, .int d_saleFrom, .int d_pieces, .int d_orders, .ref dq8, .ref dq9, .ref dq10, .ref dq11, .ref dq12, .ref dq13, .ref dq14, .ref dq15, .int d_ran, .int d_sum, .ref dq18, .ref dq19, .ref dq20])), (dq8, .inl (cI, 40, .inl d_piece)), (dq9, .inl (cI, 40, .inl d_order)), (dq10, .inl (cI, 10, .inl d_came)), (dq11, .inl (cI, 100, .inl d_worth)), (dq12, .inl (cZ, 10, .inl d_used)), (dq13, .inl (cI, 10, .inl d_usedBy)), (dq14, .inl (cI, 10, .inl d_reservedFor)), (dq15, .inl (cI, 10, .inl d_reservedTo)), (dq18, .inl (cI, 10, .inl d_pieceDual)), (dq19, .inl (cI, 10, .inl d_orderDual)), (dq20, .inl (cJ, 11264, .inr (.inl d_table)))] H := hP
    have hD : va_D A [(dq, .inr (5, [.int u3, .int d_today, .int d_cut, .int d_aging, .int d_saleFrom, .int d_pieces, .int d_orders, .ref dq8, .ref dq9, .ref dq10, .ref dq11, .ref dq12, .ref dq13, .ref dq14, .ref dq15, .int d_ran, .int d_sum, .ref dq18, .ref dq19, .ref dq20])), (dq8, .inl (cI, 40, .inl d_piece)), (dq9, .inl (cI, 40, .inl d_order)), (dq10, .inl (cI, 10, .inl d_came)), (dq11, .inl (cI, 100, .inl d_worth)), (dq12, .inl (cZ, 10, .inl d_used)), (dq13, .inl (cI, 10, .inl d_usedBy)), (dq14, .inl (cI, 10, .inl d_reservedFor)), (dq15, .inl (cI, 10, .inl d_reservedTo)), (dq18, .inl (cI, 10, .inl d_pieceDual)), (dq19, .inl (cI, 10, .inl d_orderDual)), (dq20, .inl (cJ, 11264, .inr (.inl d_table)))] := hD
    clear hP1 hD1 hPc hDc hFc hk1 hz1
    refine lv_if_ne (tgt := 49) hx hb d_D_rules_45 (by decide) (fun c9 => ?_) (fun c9 => ?_)
    · replace hm := if_f c9 hm
      refine lv_aload_n hx hb d_D_rules_49 rfl (lv_at hl 0 rfl) ?_
      refine lv_iload_n hx hb d_D_rules_50 rfl (lv_at hl 1 rfl) ?_
      refine va_put (D := (dC, dI)) (ci := 5) (v := .int x1) (ty := .int) (C := R_D) (T := F_D) (N := 20) hx hb hts hk1 t_D t_D_ok n_D hown hK hP hD hS 0 rfl rfl 2 (by decide) hk0 (fun _ h9 => h9) rfl (by decide +kernel) rfl rfl (Nat.le_of_ble_eq_true rfl) d_D_rules_51 (fun H locs hP hD hS => ?_)
      have hP : va_P (dC, dI) classes [(dq, .inr (5, [.int u3, .int d_today, .int x1, .int d_aging, .int d_saleFrom, .int d_pieces, .int d_orders, .ref dq8, .ref dq9, .ref dq10, .ref dq11, .ref dq12, .ref dq13, .ref dq14, .ref dq15, .int d_ran, .int d_sum, .ref dq18, .ref dq19, .ref dq20])), (dq8, .inl (cI, 40, .inl d_piece)), (dq9, .inl (cI, 40, .inl d_order)), (dq10, .inl (cI, 10, .inl d_came)), (dq11, .inl (cI, 100, .inl d_worth)), (dq12, .inl (cZ, 10, .inl d_used)), (dq13, .inl (cI, 10, .inl d_usedBy)), (dq14, .inl (cI, 10, .inl d_reservedFor)), (dq15, .inl (cI, 10, .inl d_reservedTo)), (dq18, .inl (cI, 10, .inl d_pieceDual)), (dq19, .inl (cI, 10, .inl d_orderDual)), (dq20, .inl (cJ, 11264, .inr (.inl d_table)))] H := hP
      have hD : va_D A [(dq, .inr (5, [.int u3, .int d_today, .int x1, .int d_aging, .int d_saleFrom, .int d_pieces, .int d_orders, .ref dq8, .ref dq9, .ref dq10, .ref dq11, .ref dq12, .ref dq13, .ref dq14, .ref dq15, .int d_ran, .int d_sum, .ref dq18, .ref dq19, .ref dq20])), (dq8, .inl (cI, 40, .inl d_piece)), (dq9, .inl (cI, 40, .inl d_order)), (dq10, .inl (cI, 10, .inl d_came)), (dq11, .inl (cI, 100, .inl d_worth)), (dq12, .inl (cZ, 10, .inl d_used)), (dq13, .inl (cI, 10, .inl d_usedBy)), (dq14, .inl (cI, 10, .inl d_reservedFor)), (dq15, .inl (cI, 10, .inl d_reservedTo)), (dq18, .inl (cI, 10, .inl d_pieceDual)), (dq19, .inl (cI, 10, .inl d_orderDual)), (dq20, .inl (cJ, 11264, .inr (.inl d_table)))] := hD
      refine lv_aload_n hx hb d_D_rules_54 rfl (lv_at hl 0 rfl) ?_
      refine lv_iload_n hx hb d_D_rules_55 rfl (lv_at hl 2 rfl) ?_
      refine va_put (D := (dC, dI)) (ci := 5) (v := .int x2) (ty := .int) (C := R_D) (T := F_D) (N := 20) hx hb hts hk1 t_D t_D_ok n_D hown hK hP hD hS 0 rfl rfl 3 (by decide) hk2 (fun _ h9 => h9) rfl (by decide +kernel) rfl rfl (Nat.le_of_ble_eq_true rfl) d_D_rules_56 (fun H locs hP hD hS => ?_)
      have hP : va_P (dC, dI) classes [(dq, .inr (5, [.int u3, .int d_today, .int x1, .int x2, .int d_saleFrom, .int d_pieces, .int d_orders, .ref dq8, .ref dq9, .ref dq10, .ref dq11, .ref dq12, .ref dq13, .ref dq14, .ref dq15, .int d_ran, .int d_sum, .ref dq18, .ref dq19, .ref dq20])), (dq8, .inl (cI, 40, .inl d_piece)), (dq9, .inl (cI, 40, .inl d_order)), (dq10, .inl (cI, 10, .inl d_came)), (dq11, .inl (cI, 100, .inl d_worth)), (dq12, .inl (cZ, 10, .inl d_used)), (dq13, .inl (cI, 10, .inl d_usedBy)), (dq14, .inl (cI, 10, .inl d_reservedFor)), (dq15, .inl (cI, 10, .inl d_reservedTo)), (dq18, .inl (cI, 10, .inl d_pieceDual)), (dq19, .inl (cI, 10, .inl d_orderDual)), (dq20, .inl (cJ, 11264, .inr (.inl d_table)))] H := hP
      have hD : va_D A [(dq, .inr (5, [.int u3, .int d_today, .int x1, .int x2, .int d_saleFrom, .int d_pieces, .int d_orders, .ref dq8, .ref dq9, .ref dq10, .ref dq11, .ref dq12, .ref dq13, .ref dq14, .ref dq15, .int d_ran, .int d_sum, .ref dq18, .ref dq19, .ref dq20])), (dq8, .inl (cI, 40, .inl d_piece)), (dq9, .inl (cI, 40, .inl d_order)), (dq10, .inl (cI, 10, .inl d_came)), (dq11, .inl (cI, 100, .inl d_worth)), (dq12, .inl (cZ, 10, .inl d_used)), (dq13, .inl (cI, 10, .inl d_usedBy)), (dq14, .inl (cI, 10, .inl d_reservedFor)), (dq15, .inl (cI, 10, .inl d_reservedTo)), (dq18, .inl (cI, 10, .inl d_pieceDual)), (dq19, .inl (cI, 10, .inl d_orderDual)), (dq20, .inl (cJ, 11264, .inr (.inl d_table)))] := hD
      refine lv_aload_n hx hb d_D_rules_59 rfl (lv_at hl 0 rfl) ?_
      refine lv_iload_n hx hb d_D_rules_60 rfl (lv_at hl 3 rfl) ?_
      refine va_put (D := (dC, dI)) (ci := 5) (v := .int x3) (ty := .int) (C := R_D) (T := F_D) (N := 20) hx hb hts hk1 t_D t_D_ok n_D hown hK hP hD hS 0 rfl rfl 4 (by decide) hk3 (fun _ h9 => h9) rfl (by decide +kernel) rfl rfl (Nat.le_of_ble_eq_true rfl) d_D_rules_61 (fun H locs hP hD hS => ?_)
      have hP : va_P (dC, dI) classes [(dq, .inr (5, [.int u3, .int d_today, .int x1, .int x2, .int x3, .int d_pieces, .int d_orders, .ref dq8, .ref dq9, .ref dq10, .ref dq11, .ref dq12, .ref dq13, .ref dq14, .ref dq15, .int d_ran, .int d_sum, .ref dq18, .ref dq19, .ref dq20])), (dq8, .inl (cI, 40, .inl d_piece)), (dq9, .inl (cI, 40, .inl d_order)), (dq10, .inl (cI, 10, .inl d_came)), (dq11, .inl (cI, 100, .inl d_worth)), (dq12, .inl (cZ, 10, .inl d_used)), (dq13, .inl (cI, 10, .inl d_usedBy)), (dq14, .inl (cI, 10, .inl d_reservedFor)), (dq15, .inl (cI, 10, .inl d_reservedTo)), (dq18, .inl (cI, 10, .inl d_pieceDual)), (dq19, .inl (cI, 10, .inl d_orderDual)), (dq20, .inl (cJ, 11264, .inr (.inl d_table)))] H := hP
      have hD : va_D A [(dq, .inr (5, [.int u3, .int d_today, .int x1, .int x2, .int x3, .int d_pieces, .int d_orders, .ref dq8, .ref dq9, .ref dq10, .ref dq11, .ref dq12, .ref dq13, .ref dq14, .ref dq15, .int d_ran, .int d_sum, .ref dq18, .ref dq19, .ref dq20])), (dq8, .inl (cI, 40, .inl d_piece)), (dq9, .inl (cI, 40, .inl d_order)), (dq10, .inl (cI, 10, .inl d_came)), (dq11, .inl (cI, 100, .inl d_worth)), (dq12, .inl (cZ, 10, .inl d_used)), (dq13, .inl (cI, 10, .inl d_usedBy)), (dq14, .inl (cI, 10, .inl d_reservedFor)), (dq15, .inl (cI, 10, .inl d_reservedTo)), (dq18, .inl (cI, 10, .inl d_pieceDual)), (dq19, .inl (cI, 10, .inl d_orderDual)), (dq20, .inl (cJ, 11264, .inr (.inl d_table)))] := hD
      cases hm
      refine W.widen (k := 0) (n := 0) (Nat.le_of_ble_eq_true rfl) (Nat.le_of_ble_eq_true rfl) ?_
      exact W.vret hx hb hr (fun t ht hW => ⟨⟨(), rfl, trivial, by rw [ht]; exact hP, va_K.moved hW.alike hK, hD⟩, hS.F ht⟩) hS.2.2 d_D_rules_64
    · replace hm := if_t c9 hm
      cases hm
      refine W.widen (k := 0) (n := 0) (Nat.le_of_ble_eq_true rfl) (Nat.le_of_ble_eq_true rfl) ?_
      exact W.vret hx hb hr (fun t ht hW => ⟨⟨(), rfl, trivial, by rw [ht]; exact hP, va_K.moved hW.alike hK, hD⟩, hS.F ht⟩) hS.2.2 d_D_rules_48
  · replace hm := if_f c9 hm
    refine lv_iload_n hx hb d_D_rules_12 rfl (lv_at hl 2 rfl) ?_
    refine lv_iconst (v := 0) hx hb d_D_rules_13 (by decide) ?_
    refine lv_sipush (v := 1000) hx hb d_D_rules_14 (by decide) ?_
    obtain ⟨r5, hc, hm⟩ := bd hm
    try dsimp only at hm
    refine vp_callSi (W.runS (As := [.int x2, .int 0, .int 1000]) (rest := [.ref dq]) ⟨hx, hb, hml, hown, hts⟩ (c_D_in l dC dI cI x2 0 1000 N r5 hc) (cwS 3 hts (gS (w0 667 rfl) (w0 668 rfl) (w0 33 rfl) (w0 669 rfl)) rfl rfl rfl q_D_in ⟨Nat.le_of_ble_eq_true rfl, Nat.le_of_ble_eq_true rfl⟩) ro_pre0 rfl rfl hl.1 rfl (lv_room (Nat.le_of_ble_eq_true rfl)) d_D_rules_17 ⟨Nat.le_of_ble_eq_true rfl, Nat.le_of_ble_eq_true rfl⟩) (fun r9 hr9 => ?_)
    subst hr9
    refine lv_if_eq (tgt := 38) hx hb d_D_rules_20 (by decide) (fun c9 => ?_) (fun c9 => ?_)
    · replace hm := if_t c9 hm
      refine lv_iconst (v := 0) hx hb d_D_rules_38 (by decide) ?_
      refine lv_iconst (v := 1) hx hb d_D_rules_39 (by decide) ?_
      refine lv_iconst (v := 1) hx hb d_D_rules_40 (by decide) ?_
      refine lv_iconst (v := 1) hx hb d_D_rules_41 (by decide) ?_
      obtain ⟨⟨r6, u7⟩, hc, hm⟩ := bd hm
      try dsimp only at hm
      have hPc := hP.sub (ws' := [(dq, .inr (5, [.int d_thrown, .int d_today, .int d_cut, .int d_aging, .int d_saleFrom, .int d_pieces, .int d_orders, .ref dq8, .ref dq9, .ref dq10, .ref dq11, .ref dq12, .ref dq13, .ref dq14, .ref dq15, .int d_ran, .int d_sum, .ref dq18, .ref dq19, .ref dq20])), (dq8, .inl (cI, 40, .inl d_piece)), (dq9, .inl (cI, 40, .inl d_order)), (dq10, .inl (cI, 10, .inl d_came)), (dq11, .inl (cI, 100, .inl d_worth)), (dq12, .inl (cZ, 10, .inl d_used)), (dq13, .inl (cI, 10, .inl d_usedBy)), (dq14, .inl (cI, 10, .inl d_reservedFor)), (dq15, .inl (cI, 10, .inl d_reservedTo)), (dq18, .inl (cI, 10, .inl d_pieceDual)), (dq19, .inl (cI, 10, .inl d_orderDual)), (dq20, .inl (cJ, 11264, .inr (.inl d_table)))]) [0, 1, 2, 3, 4, 5, 6, 7, 8, 9, 10, 11] rfl
      have hDc := hD.sub (ws' := [(dq, .inr (5, [.int d_thrown, .int d_today, .int d_cut, .int d_aging, .int d_saleFrom, .int d_pieces, .int d_orders, .ref dq8, .ref dq9, .ref dq10, .ref dq11, .ref dq12, .ref dq13, .ref dq14, .ref dq15, .int d_ran, .int d_sum, .ref dq18, .ref dq19, .ref dq20])), (dq8, .inl (cI, 40, .inl d_piece)), (dq9, .inl (cI, 40, .inl d_order)), (dq10, .inl (cI, 10, .inl d_came)), (dq11, .inl (cI, 100, .inl d_worth)), (dq12, .inl (cZ, 10, .inl d_used)), (dq13, .inl (cI, 10, .inl d_usedBy)), (dq14, .inl (cI, 10, .inl d_reservedFor)), (dq15, .inl (cI, 10, .inl d_reservedTo)), (dq18, .inl (cI, 10, .inl d_pieceDual)), (dq19, .inl (cI, 10, .inl d_orderDual)), (dq20, .inl (cJ, 11264, .inr (.inl d_table)))]) [0, 1, 2, 3, 4, 5, 6, 7, 8, 9, 10, 11] (by decide) rfl
      have hFc := va_free (wc := [(dq, .inr (5, [.int d_thrown, .int d_today, .int d_cut, .int d_aging, .int d_saleFrom, .int d_pieces, .int d_orders, .ref dq8, .ref dq9, .ref dq10, .ref dq11, .ref dq12, .ref dq13, .ref dq14, .ref dq15, .int d_ran, .int d_sum, .ref dq18, .ref dq19, .ref dq20])), (dq8, .inl (cI, 40, .inl d_piece)), (dq9, .inl (cI, 40, .inl d_order)), (dq10, .inl (cI, 10, .inl d_came)), (dq11, .inl (cI, 100, .inl d_worth)), (dq12, .inl (cZ, 10, .inl d_used)), (dq13, .inl (cI, 10, .inl d_usedBy)), (dq14, .inl (cI, 10, .inl d_reservedFor)), (dq15, .inl (cI, 10, .inl d_reservedTo)), (dq18, .inl (cI, 10, .inl d_pieceDual)), (dq19, .inl (cI, 10, .inl d_orderDual)), (dq20, .inl (cJ, 11264, .inr (.inl d_table)))]) hD hS hA [0, 1, 2, 3, 4, 5, 6, 7, 8, 9, 10, 11] rfl
      refine va_calli (va_runV (As := [.int 0, .int 1, .int 1, .int 1]) (rest := []) ⟨hx, hb, hml, hown, hts⟩ (c_D_goes l dC dI cI cZ cJ dq dq8 dq9 dq10 dq11 dq12 dq13 dq14 dq15 dq18 dq19 dq20 s.heap.size d_thrown d_today d_cut d_aging d_saleFrom d_pieces d_orders d_piece d_order d_came d_worth d_used d_usedBy d_reservedFor d_reservedTo d_ran d_sum d_pieceDual d_orderDual d_table 0 1 1 1 N (r6, u7) hc) (cwV 4 hts (gV (w0 670 rfl) (w0 671 rfl) (w0 18 rfl) (w0 33 rfl) (w0 672 rfl)) rfl rfl rfl q_D_goes ⟨Nat.le_of_ble_eq_true rfl, Nat.le_of_ble_eq_true rfl⟩) (wr_preV hK hPc hDc hN 5 0 (R_D, F_D, 20) rfl rfl) rfl rfl hl.1 rfl (lv_room (Nat.le_of_ble_eq_true rfl)) d_D_rules_42 ⟨Nat.le_of_ble_eq_true rfl, Nat.le_of_ble_eq_true rfl⟩) hS (fun q _ h => hFc q h) hFc (fun r9 u t H1 locs ht hvm hw hB hz1 hk1 hS => ?_)
      subst hw
      obtain ⟨hP1, hK1, hD1⟩ := hB
      rw [ht] at hP1
      obtain ⟨hP, hD⟩ := va_join (wr := []) (w1 := [(dq, .inr (5, [.int u7, .int d_today, .int d_cut, .int d_aging, .int d_saleFrom, .int d_pieces, .int d_orders, .ref dq8, .ref dq9, .ref dq10, .ref dq11, .ref dq12, .ref dq13, .ref dq14, .ref dq15, .int d_ran, .int d_sum, .ref dq18, .ref dq19, .ref dq20])), (dq8, .inl (cI, 40, .inl d_piece)), (dq9, .inl (cI, 40, .inl d_order)), (dq10, .inl (cI, 10, .inl d_came)), (dq11, .inl (cI, 100, .inl d_worth)), (dq12, .inl (cZ, 10, .inl d_used)), (dq13, .inl (cI, 10, .inl d_usedBy)), (dq14, .inl (cI, 10, .inl d_reservedFor)), (dq15, .inl (cI, 10, .inl d_reservedTo)), (dq18, .inl (cI, 10, .inl d_pieceDual)), (dq19, .inl (cI, 10, .inl d_orderDual)), (dq20, .inl (cJ, 11264, .inr (.inl d_table)))]) hP hD [0, 1, 2, 3, 4, 5, 6, 7, 8, 9, 10, 11] [] rfl rfl (by decide) (by decide) hk1 hFc hP1 hD1
      generalize H1 = H at hP hS ⊢
      have hP : va_P (dC, dI) classes [(dq, .inr (5, [.int u7, .int d_today, .int d_cut, .int d_aging, .int d_saleFrom, .int d_pieces, .int d_orders, .ref dq8, .ref dq9, .ref dq10, .ref dq11, .ref dq12, .ref dq13, .ref dq14, .ref dq15, .int d_ran, .int d_sum, .ref dq18, .ref dq19, .ref dq20])), (dq8, .inl (cI, 40, .inl d_piece)), (dq9, .inl (cI, 40, .inl d_order)), (dq10, .inl (cI, 10, .inl d_came)), (dq11, .inl (cI, 100, .inl d_worth)), (dq12, .inl (cZ, 10, .inl d_used)), (dq13, .inl (cI, 10, .inl d_usedBy)), (dq14, .inl (cI, 10, .inl d_reservedFor)), (dq15, .inl (cI, 10, .inl d_reservedTo)), (dq18, .inl (cI, 10, .inl d_pieceDual)), (dq19, .inl (cI, 10, .inl d_orderDual)), (dq20, .inl (cJ, 11264, .inr (.inl d_table)))] H := hP
      have hD : va_D A [(dq, .inr (5, [.int u7, .int d_today, .int d_cut, .int d_aging, .int d_saleFrom, .int d_pieces, .int d_orders, .ref dq8, .ref dq9, .ref dq10, .ref dq11, .ref dq12, .ref dq13, .ref dq14, .ref dq15, .int d_ran, .int d_sum, .ref dq18, .ref dq19, .ref dq20])), (dq8, .inl (cI, 40, .inl d_piece)), (dq9, .inl (cI, 40, .inl d_order)), (dq10, .inl (cI, 10, .inl d_came)), (dq11, .inl (cI, 100, .inl d_worth)), (dq12, .inl (cZ, 10, .inl d_used)), (dq13, .inl (cI, 10, .inl d_usedBy)), (dq14, .inl (cI, 10, .inl d_reservedFor)), (dq15, .inl (cI, 10, .inl d_reservedTo)), (dq18, .inl (cI, 10, .inl d_pieceDual)), (dq19, .inl (cI, 10, .inl d_orderDual)), (dq20, .inl (cJ, 11264, .inr (.inl d_table)))] := hD
      clear hP1 hD1 hPc hDc hFc hk1 hz1
      refine lv_if_ne (tgt := 49) hx hb d_D_rules_45 (by decide) (fun c9 => ?_) (fun c9 => ?_)
      · replace hm := if_f c9 hm
        refine lv_aload_n hx hb d_D_rules_49 rfl (lv_at hl 0 rfl) ?_
        refine lv_iload_n hx hb d_D_rules_50 rfl (lv_at hl 1 rfl) ?_
        refine va_put (D := (dC, dI)) (ci := 5) (v := .int x1) (ty := .int) (C := R_D) (T := F_D) (N := 20) hx hb hts hk1 t_D t_D_ok n_D hown hK hP hD hS 0 rfl rfl 2 (by decide) hk0 (fun _ h9 => h9) rfl (by decide +kernel) rfl rfl (Nat.le_of_ble_eq_true rfl) d_D_rules_51 (fun H locs hP hD hS => ?_)
        have hP : va_P (dC, dI) classes [(dq, .inr (5, [.int u7, .int d_today, .int x1, .int d_aging, .int d_saleFrom, .int d_pieces, .int d_orders, .ref dq8, .ref dq9, .ref dq10, .ref dq11, .ref dq12, .ref dq13, .ref dq14, .ref dq15, .int d_ran, .int d_sum, .ref dq18, .ref dq19, .ref dq20])), (dq8, .inl (cI, 40, .inl d_piece)), (dq9, .inl (cI, 40, .inl d_order)), (dq10, .inl (cI, 10, .inl d_came)), (dq11, .inl (cI, 100, .inl d_worth)), (dq12, .inl (cZ, 10, .inl d_used)), (dq13, .inl (cI, 10, .inl d_usedBy)), (dq14, .inl (cI, 10, .inl d_reservedFor)), (dq15, .inl (cI, 10, .inl d_reservedTo)), (dq18, .inl (cI, 10, .inl d_pieceDual)), (dq19, .inl (cI, 10, .inl d_orderDual)), (dq20, .inl (cJ, 11264, .inr (.inl d_table)))] H := hP
        have hD : va_D A [(dq, .inr (5, [.int u7, .int d_today, .int x1, .int d_aging, .int d_saleFrom, .int d_pieces, .int d_orders, .ref dq8, .ref dq9, .ref dq10, .ref dq11, .ref dq12, .ref dq13, .ref dq14, .ref dq15, .int d_ran, .int d_sum, .ref dq18, .ref dq19, .ref dq20])), (dq8, .inl (cI, 40, .inl d_piece)), (dq9, .inl (cI, 40, .inl d_order)), (dq10, .inl (cI, 10, .inl d_came)), (dq11, .inl (cI, 100, .inl d_worth)), (dq12, .inl (cZ, 10, .inl d_used)), (dq13, .inl (cI, 10, .inl d_usedBy)), (dq14, .inl (cI, 10, .inl d_reservedFor)), (dq15, .inl (cI, 10, .inl d_reservedTo)), (dq18, .inl (cI, 10, .inl d_pieceDual)), (dq19, .inl (cI, 10, .inl d_orderDual)), (dq20, .inl (cJ, 11264, .inr (.inl d_table)))] := hD
        refine lv_aload_n hx hb d_D_rules_54 rfl (lv_at hl 0 rfl) ?_
        refine lv_iload_n hx hb d_D_rules_55 rfl (lv_at hl 2 rfl) ?_
        refine va_put (D := (dC, dI)) (ci := 5) (v := .int x2) (ty := .int) (C := R_D) (T := F_D) (N := 20) hx hb hts hk1 t_D t_D_ok n_D hown hK hP hD hS 0 rfl rfl 3 (by decide) hk2 (fun _ h9 => h9) rfl (by decide +kernel) rfl rfl (Nat.le_of_ble_eq_true rfl) d_D_rules_56 (fun H locs hP hD hS => ?_)
        have hP : va_P (dC, dI) classes [(dq, .inr (5, [.int u7, .int d_today, .int x1, .int x2, .int d_saleFrom, .int d_pieces, .int d_orders, .ref dq8, .ref dq9, .ref dq10, .ref dq11, .ref dq12, .ref dq13, .ref dq14, .ref dq15, .int d_ran, .int d_sum, .ref dq18, .ref dq19, .ref dq20])), (dq8, .inl (cI, 40, .inl d_piece)), (dq9, .inl (cI, 40, .inl d_order)), (dq10, .inl (cI, 10, .inl d_came)), (dq11, .inl (cI, 100, .inl d_worth)), (dq12, .inl (cZ, 10, .inl d_used)), (dq13, .inl (cI, 10, .inl d_usedBy)), (dq14, .inl (cI, 10, .inl d_reservedFor)), (dq15, .inl (cI, 10, .inl d_reservedTo)), (dq18, .inl (cI, 10, .inl d_pieceDual)), (dq19, .inl (cI, 10, .inl d_orderDual)), (dq20, .inl (cJ, 11264, .inr (.inl d_table)))] H := hP
        have hD : va_D A [(dq, .inr (5, [.int u7, .int d_today, .int x1, .int x2, .int d_saleFrom, .int d_pieces, .int d_orders, .ref dq8, .ref dq9, .ref dq10, .ref dq11, .ref dq12, .ref dq13, .ref dq14, .ref dq15, .int d_ran, .int d_sum, .ref dq18, .ref dq19, .ref dq20])), (dq8, .inl (cI, 40, .inl d_piece)), (dq9, .inl (cI, 40, .inl d_order)), (dq10, .inl (cI, 10, .inl d_came)), (dq11, .inl (cI, 100, .inl d_worth)), (dq12, .inl (cZ, 10, .inl d_used)), (dq13, .inl (cI, 10, .inl d_usedBy)), (dq14, .inl (cI, 10, .inl d_reservedFor)), (dq15, .inl (cI, 10, .inl d_reservedTo)), (dq18, .inl (cI, 10, .inl d_pieceDual)), (dq19, .inl (cI, 10, .inl d_orderDual)), (dq20, .inl (cJ, 11264, .inr (.inl d_table)))] := hD
        refine lv_aload_n hx hb d_D_rules_59 rfl (lv_at hl 0 rfl) ?_
        refine lv_iload_n hx hb d_D_rules_60 rfl (lv_at hl 3 rfl) ?_
        refine va_put (D := (dC, dI)) (ci := 5) (v := .int x3) (ty := .int) (C := R_D) (T := F_D) (N := 20) hx hb hts hk1 t_D t_D_ok n_D hown hK hP hD hS 0 rfl rfl 4 (by decide) hk3 (fun _ h9 => h9) rfl (by decide +kernel) rfl rfl (Nat.le_of_ble_eq_true rfl) d_D_rules_61 (fun H locs hP hD hS => ?_)
        have hP : va_P (dC, dI) classes [(dq, .inr (5, [.int u7, .int d_today, .int x1, .int x2, .int x3, .int d_pieces, .int d_orders, .ref dq8, .ref dq9, .ref dq10, .ref dq11, .ref dq12, .ref dq13, .ref dq14, .ref dq15, .int d_ran, .int d_sum, .ref dq18, .ref dq19, .ref dq20])), (dq8, .inl (cI, 40, .inl d_piece)), (dq9, .inl (cI, 40, .inl d_order)), (dq10, .inl (cI, 10, .inl d_came)), (dq11, .inl (cI, 100, .inl d_worth)), (dq12, .inl (cZ, 10, .inl d_used)), (dq13, .inl (cI, 10, .inl d_usedBy)), (dq14, .inl (cI, 10, .inl d_reservedFor)), (dq15, .inl (cI, 10, .inl d_reservedTo)), (dq18, .inl (cI, 10, .inl d_pieceDual)), (dq19, .inl (cI, 10, .inl d_orderDual)), (dq20, .inl (cJ, 11264, .inr (.inl d_table)))] H := hP
        have hD : va_D A [(dq, .inr (5, [.int u7, .int d_today, .int x1, .int x2, .int x3, .int d_pieces, .int d_orders, .ref dq8, .ref dq9, .ref dq10, .ref dq11, .ref dq12, .ref dq13, .ref dq14, .ref dq15, .int d_ran, .int d_sum, .ref dq18, .ref dq19, .ref dq20])), (dq8, .inl (cI, 40, .inl d_piece)), (dq9, .inl (cI, 40, .inl d_order)), (dq10, .inl (cI, 10, .inl d_came)), (dq11, .inl (cI, 100, .inl d_worth)), (dq12, .inl (cZ, 10, .inl d_used)), (dq13, .inl (cI, 10, .inl d_usedBy)), (dq14, .inl (cI, 10, .inl d_reservedFor)), (dq15, .inl (cI, 10, .inl d_reservedTo)), (dq18, .inl (cI, 10, .inl d_pieceDual)), (dq19, .inl (cI, 10, .inl d_orderDual)), (dq20, .inl (cJ, 11264, .inr (.inl d_table)))] := hD
        cases hm
        refine W.widen (k := 0) (n := 0) (Nat.le_of_ble_eq_true rfl) (Nat.le_of_ble_eq_true rfl) ?_
        exact W.vret hx hb hr (fun t ht hW => ⟨⟨(), rfl, trivial, by rw [ht]; exact hP, va_K.moved hW.alike hK, hD⟩, hS.F ht⟩) hS.2.2 d_D_rules_64
      · replace hm := if_t c9 hm
        cases hm
        refine W.widen (k := 0) (n := 0) (Nat.le_of_ble_eq_true rfl) (Nat.le_of_ble_eq_true rfl) ?_
        exact W.vret hx hb hr (fun t ht hW => ⟨⟨(), rfl, trivial, by rw [ht]; exact hP, va_K.moved hW.alike hK, hD⟩, hS.F ht⟩) hS.2.2 d_D_rules_48
    · replace hm := if_f c9 hm
      refine lv_iload_n hx hb d_D_rules_23 rfl (lv_at hl 3 rfl) ?_
      refine lv_iconst (v := 0) hx hb d_D_rules_24 (by decide) ?_
      refine lv_sipush (v := 9999) hx hb d_D_rules_25 (by decide) ?_
      obtain ⟨r9, hc, hm⟩ := bd hm
      try dsimp only at hm
      refine vp_callSi (W.runS (As := [.int x3, .int 0, .int 9999]) (rest := [.ref dq]) ⟨hx, hb, hml, hown, hts⟩ (c_D_in l dC dI cI x3 0 9999 N r9 hc) (cwS 3 hts (gS (w0 667 rfl) (w0 668 rfl) (w0 33 rfl) (w0 669 rfl)) rfl rfl rfl q_D_in ⟨Nat.le_of_ble_eq_true rfl, Nat.le_of_ble_eq_true rfl⟩) ro_pre0 rfl rfl hl.1 rfl (lv_room (Nat.le_of_ble_eq_true rfl)) d_D_rules_28 ⟨Nat.le_of_ble_eq_true rfl, Nat.le_of_ble_eq_true rfl⟩) (fun r9 hr9 => ?_)
      subst hr9
      refine lv_if_eq (tgt := 38) hx hb d_D_rules_31 (by decide) (fun c9 => ?_) (fun c9 => ?_)
      · replace hm := if_t c9 hm
        refine lv_iconst (v := 0) hx hb d_D_rules_38 (by decide) ?_
        refine lv_iconst (v := 1) hx hb d_D_rules_39 (by decide) ?_
        refine lv_iconst (v := 1) hx hb d_D_rules_40 (by decide) ?_
        refine lv_iconst (v := 1) hx hb d_D_rules_41 (by decide) ?_
        obtain ⟨⟨r10, u11⟩, hc, hm⟩ := bd hm
        try dsimp only at hm
        have hPc := hP.sub (ws' := [(dq, .inr (5, [.int d_thrown, .int d_today, .int d_cut, .int d_aging, .int d_saleFrom, .int d_pieces, .int d_orders, .ref dq8, .ref dq9, .ref dq10, .ref dq11, .ref dq12, .ref dq13, .ref dq14, .ref dq15, .int d_ran, .int d_sum, .ref dq18, .ref dq19, .ref dq20])), (dq8, .inl (cI, 40, .inl d_piece)), (dq9, .inl (cI, 40, .inl d_order)), (dq10, .inl (cI, 10, .inl d_came)), (dq11, .inl (cI, 100, .inl d_worth)), (dq12, .inl (cZ, 10, .inl d_used)), (dq13, .inl (cI, 10, .inl d_usedBy)), (dq14, .inl (cI, 10, .inl d_reservedFor)), (dq15, .inl (cI, 10, .inl d_reservedTo)), (dq18, .inl (cI, 10, .inl d_pieceDual)), (dq19, .inl (cI, 10, .inl d_orderDual)), (dq20, .inl (cJ, 11264, .inr (.inl d_table)))]) [0, 1, 2, 3, 4, 5, 6, 7, 8, 9, 10, 11] rfl
        have hDc := hD.sub (ws' := [(dq, .inr (5, [.int d_thrown, .int d_today, .int d_cut, .int d_aging, .int d_saleFrom, .int d_pieces, .int d_orders, .ref dq8, .ref dq9, .ref dq10, .ref dq11, .ref dq12, .ref dq13, .ref dq14, .ref dq15, .int d_ran, .int d_sum, .ref dq18, .ref dq19, .ref dq20])), (dq8, .inl (cI, 40, .inl d_piece)), (dq9, .inl (cI, 40, .inl d_order)), (dq10, .inl (cI, 10, .inl d_came)), (dq11, .inl (cI, 100, .inl d_worth)), (dq12, .inl (cZ, 10, .inl d_used)), (dq13, .inl (cI, 10, .inl d_usedBy)), (dq14, .inl (cI, 10, .inl d_reservedFor)), (dq15, .inl (cI, 10, .inl d_reservedTo)), (dq18, .inl (cI, 10, .inl d_pieceDual)), (dq19, .inl (cI, 10, .inl d_orderDual)), (dq20, .inl (cJ, 11264, .inr (.inl d_table)))]) [0, 1, 2, 3, 4, 5, 6, 7, 8, 9, 10, 11] (by decide) rfl
        have hFc := va_free (wc := [(dq, .inr (5, [.int d_thrown, .int d_today, .int d_cut, .int d_aging, .int d_saleFrom, .int d_pieces, .int d_orders, .ref dq8, .ref dq9, .ref dq10, .ref dq11, .ref dq12, .ref dq13, .ref dq14, .ref dq15, .int d_ran, .int d_sum, .ref dq18, .ref dq19, .ref dq20])), (dq8, .inl (cI, 40, .inl d_piece)), (dq9, .inl (cI, 40, .inl d_order)), (dq10, .inl (cI, 10, .inl d_came)), (dq11, .inl (cI, 100, .inl d_worth)), (dq12, .inl (cZ, 10, .inl d_used)), (dq13, .inl (cI, 10, .inl d_usedBy)), (dq14, .inl (cI, 10, .inl d_reservedFor)), (dq15, .inl (cI, 10, .inl d_reservedTo)), (dq18, .inl (cI, 10, .inl d_pieceDual)), (dq19, .inl (cI, 10, .inl d_orderDual)), (dq20, .inl (cJ, 11264, .inr (.inl d_table)))]) hD hS hA [0, 1, 2, 3, 4, 5, 6, 7, 8, 9, 10, 11] rfl
        refine va_calli (va_runV (As := [.int 0, .int 1, .int 1, .int 1]) (rest := []) ⟨hx, hb, hml, hown, hts⟩ (c_D_goes l dC dI cI cZ cJ dq dq8 dq9 dq10 dq11 dq12 dq13 dq14 dq15 dq18 dq19 dq20 s.heap.size d_thrown d_today d_cut d_aging d_saleFrom d_pieces d_orders d_piece d_order d_came d_worth d_used d_usedBy d_reservedFor d_reservedTo d_ran d_sum d_pieceDual d_orderDual d_table 0 1 1 1 N (r10, u11) hc) (cwV 4 hts (gV (w0 670 rfl) (w0 671 rfl) (w0 18 rfl) (w0 33 rfl) (w0 672 rfl)) rfl rfl rfl q_D_goes ⟨Nat.le_of_ble_eq_true rfl, Nat.le_of_ble_eq_true rfl⟩) (wr_preV hK hPc hDc hN 5 0 (R_D, F_D, 20) rfl rfl) rfl rfl hl.1 rfl (lv_room (Nat.le_of_ble_eq_true rfl)) d_D_rules_42 ⟨Nat.le_of_ble_eq_true rfl, Nat.le_of_ble_eq_true rfl⟩) hS (fun q _ h => hFc q h) hFc (fun r9 u t H1 locs ht hvm hw hB hz1 hk1 hS => ?_)
        subst hw
        obtain ⟨hP1, hK1, hD1⟩ := hB
        rw [ht] at hP1
        obtain ⟨hP, hD⟩ := va_join (wr := []) (w1 := [(dq, .inr (5, [.int u11, .int d_today, .int d_cut, .int d_aging, .int d_saleFrom, .int d_pieces, .int d_orders, .ref dq8, .ref dq9, .ref dq10, .ref dq11, .ref dq12, .ref dq13, .ref dq14, .ref dq15, .int d_ran, .int d_sum, .ref dq18, .ref dq19, .ref dq20])), (dq8, .inl (cI, 40, .inl d_piece)), (dq9, .inl (cI, 40, .inl d_order)), (dq10, .inl (cI, 10, .inl d_came)), (dq11, .inl (cI, 100, .inl d_worth)), (dq12, .inl (cZ, 10, .inl d_used)), (dq13, .inl (cI, 10, .inl d_usedBy)), (dq14, .inl (cI, 10, .inl d_reservedFor)), (dq15, .inl (cI, 10, .inl d_reservedTo)), (dq18, .inl (cI, 10, .inl d_pieceDual)), (dq19, .inl (cI, 10, .inl d_orderDual)), (dq20, .inl (cJ, 11264, .inr (.inl d_table)))]) hP hD [0, 1, 2, 3, 4, 5, 6, 7, 8, 9, 10, 11] [] rfl rfl (by decide) (by decide) hk1 hFc hP1 hD1
        generalize H1 = H at hP hS ⊢
        have hP : va_P (dC, dI) classes [(dq, .inr (5, [.int u11, .int d_today, .int d_cut, .int d_aging, .int d_saleFrom, .int d_pieces, .int d_orders, .ref dq8, .ref dq9, .ref dq10, .ref dq11, .ref dq12, .ref dq13, .ref dq14, .ref dq15, .int d_ran, .int d_sum, .ref dq18, .ref dq19, .ref dq20])), (dq8, .inl (cI, 40, .inl d_piece)), (dq9, .inl (cI, 40, .inl d_order)), (dq10, .inl (cI, 10, .inl d_came)), (dq11, .inl (cI, 100, .inl d_worth)), (dq12, .inl (cZ, 10, .inl d_used)), (dq13, .inl (cI, 10, .inl d_usedBy)), (dq14, .inl (cI, 10, .inl d_reservedFor)), (dq15, .inl (cI, 10, .inl d_reservedTo)), (dq18, .inl (cI, 10, .inl d_pieceDual)), (dq19, .inl (cI, 10, .inl d_orderDual)), (dq20, .inl (cJ, 11264, .inr (.inl d_table)))] H := hP
        have hD : va_D A [(dq, .inr (5, [.int u11, .int d_today, .int d_cut, .int d_aging, .int d_saleFrom, .int d_pieces, .int d_orders, .ref dq8, .ref dq9, .ref dq10, .ref dq11, .ref dq12, .ref dq13, .ref dq14, .ref dq15, .int d_ran, .int d_sum, .ref dq18, .ref dq19, .ref dq20])), (dq8, .inl (cI, 40, .inl d_piece)), (dq9, .inl (cI, 40, .inl d_order)), (dq10, .inl (cI, 10, .inl d_came)), (dq11, .inl (cI, 100, .inl d_worth)), (dq12, .inl (cZ, 10, .inl d_used)), (dq13, .inl (cI, 10, .inl d_usedBy)), (dq14, .inl (cI, 10, .inl d_reservedFor)), (dq15, .inl (cI, 10, .inl d_reservedTo)), (dq18, .inl (cI, 10, .inl d_pieceDual)), (dq19, .inl (cI, 10, .inl d_orderDual)), (dq20, .inl (cJ, 11264, .inr (.inl d_table)))] := hD
        clear hP1 hD1 hPc hDc hFc hk1 hz1
        refine lv_if_ne (tgt := 49) hx hb d_D_rules_45 (by decide) (fun c9 => ?_) (fun c9 => ?_)
        · replace hm := if_f c9 hm
          refine lv_aload_n hx hb d_D_rules_49 rfl (lv_at hl 0 rfl) ?_
          refine lv_iload_n hx hb d_D_rules_50 rfl (lv_at hl 1 rfl) ?_
          refine va_put (D := (dC, dI)) (ci := 5) (v := .int x1) (ty := .int) (C := R_D) (T := F_D) (N := 20) hx hb hts hk1 t_D t_D_ok n_D hown hK hP hD hS 0 rfl rfl 2 (by decide) hk0 (fun _ h9 => h9) rfl (by decide +kernel) rfl rfl (Nat.le_of_ble_eq_true rfl) d_D_rules_51 (fun H locs hP hD hS => ?_)
          have hP : va_P (dC, dI) classes [(dq, .inr (5, [.int u11, .int d_today, .int x1, .int d_aging, .int d_saleFrom, .int d_pieces, .int d_orders, .ref dq8, .ref dq9, .ref dq10, .ref dq11, .ref dq12, .ref dq13, .ref dq14, .ref dq15, .int d_ran, .int d_sum, .ref dq18, .ref dq19, .ref dq20])), (dq8, .inl (cI, 40, .inl d_piece)), (dq9, .inl (cI, 40, .inl d_order)), (dq10, .inl (cI, 10, .inl d_came)), (dq11, .inl (cI, 100, .inl d_worth)), (dq12, .inl (cZ, 10, .inl d_used)), (dq13, .inl (cI, 10, .inl d_usedBy)), (dq14, .inl (cI, 10, .inl d_reservedFor)), (dq15, .inl (cI, 10, .inl d_reservedTo)), (dq18, .inl (cI, 10, .inl d_pieceDual)), (dq19, .inl (cI, 10, .inl d_orderDual)), (dq20, .inl (cJ, 11264, .inr (.inl d_table)))] H := hP
          have hD : va_D A [(dq, .inr (5, [.int u11, .int d_today, .int x1, .int d_aging, .int d_saleFrom, .int d_pieces, .int d_orders, .ref dq8, .ref dq9, .ref dq10, .ref dq11, .ref dq12, .ref dq13, .ref dq14, .ref dq15, .int d_ran, .int d_sum, .ref dq18, .ref dq19, .ref dq20])), (dq8, .inl (cI, 40, .inl d_piece)), (dq9, .inl (cI, 40, .inl d_order)), (dq10, .inl (cI, 10, .inl d_came)), (dq11, .inl (cI, 100, .inl d_worth)), (dq12, .inl (cZ, 10, .inl d_used)), (dq13, .inl (cI, 10, .inl d_usedBy)), (dq14, .inl (cI, 10, .inl d_reservedFor)), (dq15, .inl (cI, 10, .inl d_reservedTo)), (dq18, .inl (cI, 10, .inl d_pieceDual)), (dq19, .inl (cI, 10, .inl d_orderDual)), (dq20, .inl (cJ, 11264, .inr (.inl d_table)))] := hD
          refine lv_aload_n hx hb d_D_rules_54 rfl (lv_at hl 0 rfl) ?_
          refine lv_iload_n hx hb d_D_rules_55 rfl (lv_at hl 2 rfl) ?_
          refine va_put (D := (dC, dI)) (ci := 5) (v := .int x2) (ty := .int) (C := R_D) (T := F_D) (N := 20) hx hb hts hk1 t_D t_D_ok n_D hown hK hP hD hS 0 rfl rfl 3 (by decide) hk2 (fun _ h9 => h9) rfl (by decide +kernel) rfl rfl (Nat.le_of_ble_eq_true rfl) d_D_rules_56 (fun H locs hP hD hS => ?_)
          have hP : va_P (dC, dI) classes [(dq, .inr (5, [.int u11, .int d_today, .int x1, .int x2, .int d_saleFrom, .int d_pieces, .int d_orders, .ref dq8, .ref dq9, .ref dq10, .ref dq11, .ref dq12, .ref dq13, .ref dq14, .ref dq15, .int d_ran, .int d_sum, .ref dq18, .ref dq19, .ref dq20])), (dq8, .inl (cI, 40, .inl d_piece)), (dq9, .inl (cI, 40, .inl d_order)), (dq10, .inl (cI, 10, .inl d_came)), (dq11, .inl (cI, 100, .inl d_worth)), (dq12, .inl (cZ, 10, .inl d_used)), (dq13, .inl (cI, 10, .inl d_usedBy)), (dq14, .inl (cI, 10, .inl d_reservedFor)), (dq15, .inl (cI, 10, .inl d_reservedTo)), (dq18, .inl (cI, 10, .inl d_pieceDual)), (dq19, .inl (cI, 10, .inl d_orderDual)), (dq20, .inl (cJ, 11264, .inr (.inl d_table)))] H := hP
          have hD : va_D A [(dq, .inr (5, [.int u11, .int d_today, .int x1, .int x2, .int d_saleFrom, .int d_pieces, .int d_orders, .ref dq8, .ref dq9, .ref dq10, .ref dq11, .ref dq12, .ref dq13, .ref dq14, .ref dq15, .int d_ran, .int d_sum, .ref dq18, .ref dq19, .ref dq20])), (dq8, .inl (cI, 40, .inl d_piece)), (dq9, .inl (cI, 40, .inl d_order)), (dq10, .inl (cI, 10, .inl d_came)), (dq11, .inl (cI, 100, .inl d_worth)), (dq12, .inl (cZ, 10, .inl d_used)), (dq13, .inl (cI, 10, .inl d_usedBy)), (dq14, .inl (cI, 10, .inl d_reservedFor)), (dq15, .inl (cI, 10, .inl d_reservedTo)), (dq18, .inl (cI, 10, .inl d_pieceDual)), (dq19, .inl (cI, 10, .inl d_orderDual)), (dq20, .inl (cJ, 11264, .inr (.inl d_table)))] := hD
          refine lv_aload_n hx hb d_D_rules_59 rfl (lv_at hl 0 rfl) ?_
          refine lv_iload_n hx hb d_D_rules_60 rfl (lv_at hl 3 rfl) ?_
          refine va_put (D := (dC, dI)) (ci := 5) (v := .int x3) (ty := .int) (C := R_D) (T := F_D) (N := 20) hx hb hts hk1 t_D t_D_ok n_D hown hK hP hD hS 0 rfl rfl 4 (by decide) hk3 (fun _ h9 => h9) rfl (by decide +kernel) rfl rfl (Nat.le_of_ble_eq_true rfl) d_D_rules_61 (fun H locs hP hD hS => ?_)
          have hP : va_P (dC, dI) classes [(dq, .inr (5, [.int u11, .int d_today, .int x1, .int x2, .int x3, .int d_pieces, .int d_orders, .ref dq8, .ref dq9, .ref dq10, .ref dq11, .ref dq12, .ref dq13, .ref dq14, .ref dq15, .int d_ran, .int d_sum, .ref dq18, .ref dq19, .ref dq20])), (dq8, .inl (cI, 40, .inl d_piece)), (dq9, .inl (cI, 40, .inl d_order)), (dq10, .inl (cI, 10, .inl d_came)), (dq11, .inl (cI, 100, .inl d_worth)), (dq12, .inl (cZ, 10, .inl d_used)), (dq13, .inl (cI, 10, .inl d_usedBy)), (dq14, .inl (cI, 10, .inl d_reservedFor)), (dq15, .inl (cI, 10, .inl d_reservedTo)), (dq18, .inl (cI, 10, .inl d_pieceDual)), (dq19, .inl (cI, 10, .inl d_orderDual)), (dq20, .inl (cJ, 11264, .inr (.inl d_table)))] H := hP
          have hD : va_D A [(dq, .inr (5, [.int u11, .int d_today, .int x1, .int x2, .int x3, .int d_pieces, .int d_orders, .ref dq8, .ref dq9, .ref dq10, .ref dq11, .ref dq12, .ref dq13, .ref dq14, .ref dq15, .int d_ran, .int d_sum, .ref dq18, .ref dq19, .ref dq20])), (dq8, .inl (cI, 40, .inl d_piece)), (dq9, .inl (cI, 40, .inl d_order)), (dq10, .inl (cI, 10, .inl d_came)), (dq11, .inl (cI, 100, .inl d_worth)), (dq12, .inl (cZ, 10, .inl d_used)), (dq13, .inl (cI, 10, .inl d_usedBy)), (dq14, .inl (cI, 10, .inl d_reservedFor)), (dq15, .inl (cI, 10, .inl d_reservedTo)), (dq18, .inl (cI, 10, .inl d_pieceDual)), (dq19, .inl (cI, 10, .inl d_orderDual)), (dq20, .inl (cJ, 11264, .inr (.inl d_table)))] := hD
          cases hm
          refine W.widen (k := 0) (n := 0) (Nat.le_of_ble_eq_true rfl) (Nat.le_of_ble_eq_true rfl) ?_
          exact W.vret hx hb hr (fun t ht hW => ⟨⟨(), rfl, trivial, by rw [ht]; exact hP, va_K.moved hW.alike hK, hD⟩, hS.F ht⟩) hS.2.2 d_D_rules_64
        · replace hm := if_t c9 hm
          cases hm
          refine W.widen (k := 0) (n := 0) (Nat.le_of_ble_eq_true rfl) (Nat.le_of_ble_eq_true rfl) ?_
          exact W.vret hx hb hr (fun t ht hW => ⟨⟨(), rfl, trivial, by rw [ht]; exact hP, va_K.moved hW.alike hK, hD⟩, hS.F ht⟩) hS.2.2 d_D_rules_48
      · replace hm := if_f c9 hm
        refine lv_iconst (v := 1) hx hb d_D_rules_34 (by decide) ?_
        refine lv_goto (tgt := 39) hx hb d_D_rules_35 (by decide) ?_
        refine lv_iconst (v := 1) hx hb d_D_rules_39 (by decide) ?_
        refine lv_iconst (v := 1) hx hb d_D_rules_40 (by decide) ?_
        refine lv_iconst (v := 1) hx hb d_D_rules_41 (by decide) ?_
        obtain ⟨⟨r13, u14⟩, hc, hm⟩ := bd hm
        try dsimp only at hm
        have hPc := hP.sub (ws' := [(dq, .inr (5, [.int d_thrown, .int d_today, .int d_cut, .int d_aging, .int d_saleFrom, .int d_pieces, .int d_orders, .ref dq8, .ref dq9, .ref dq10, .ref dq11, .ref dq12, .ref dq13, .ref dq14, .ref dq15, .int d_ran, .int d_sum, .ref dq18, .ref dq19, .ref dq20])), (dq8, .inl (cI, 40, .inl d_piece)), (dq9, .inl (cI, 40, .inl d_order)), (dq10, .inl (cI, 10, .inl d_came)), (dq11, .inl (cI, 100, .inl d_worth)), (dq12, .inl (cZ, 10, .inl d_used)), (dq13, .inl (cI, 10, .inl d_usedBy)), (dq14, .inl (cI, 10, .inl d_reservedFor)), (dq15, .inl (cI, 10, .inl d_reservedTo)), (dq18, .inl (cI, 10, .inl d_pieceDual)), (dq19, .inl (cI, 10, .inl d_orderDual)), (dq20, .inl (cJ, 11264, .inr (.inl d_table)))]) [0, 1, 2, 3, 4, 5, 6, 7, 8, 9, 10, 11] rfl
        have hDc := hD.sub (ws' := [(dq, .inr (5, [.int d_thrown, .int d_today, .int d_cut, .int d_aging, .int d_saleFrom, .int d_pieces, .int d_orders, .ref dq8, .ref dq9, .ref dq10, .ref dq11, .ref dq12, .ref dq13, .ref dq14, .ref dq15, .int d_ran, .int d_sum, .ref dq18, .ref dq19, .ref dq20])), (dq8, .inl (cI, 40, .inl d_piece)), (dq9, .inl (cI, 40, .inl d_order)), (dq10, .inl (cI, 10, .inl d_came)), (dq11, .inl (cI, 100, .inl d_worth)), (dq12, .inl (cZ, 10, .inl d_used)), (dq13, .inl (cI, 10, .inl d_usedBy)), (dq14, .inl (cI, 10, .inl d_reservedFor)), (dq15, .inl (cI, 10, .inl d_reservedTo)), (dq18, .inl (cI, 10, .inl d_pieceDual)), (dq19, .inl (cI, 10, .inl d_orderDual)), (dq20, .inl (cJ, 11264, .inr (.inl d_table)))]) [0, 1, 2, 3, 4, 5, 6, 7, 8, 9, 10, 11] (by decide) rfl
        have hFc := va_free (wc := [(dq, .inr (5, [.int d_thrown, .int d_today, .int d_cut, .int d_aging, .int d_saleFrom, .int d_pieces, .int d_orders, .ref dq8, .ref dq9, .ref dq10, .ref dq11, .ref dq12, .ref dq13, .ref dq14, .ref dq15, .int d_ran, .int d_sum, .ref dq18, .ref dq19, .ref dq20])), (dq8, .inl (cI, 40, .inl d_piece)), (dq9, .inl (cI, 40, .inl d_order)), (dq10, .inl (cI, 10, .inl d_came)), (dq11, .inl (cI, 100, .inl d_worth)), (dq12, .inl (cZ, 10, .inl d_used)), (dq13, .inl (cI, 10, .inl d_usedBy)), (dq14, .inl (cI, 10, .inl d_reservedFor)), (dq15, .inl (cI, 10, .inl d_reservedTo)), (dq18, .inl (cI, 10, .inl d_pieceDual)), (dq19, .inl (cI, 10, .inl d_orderDual)), (dq20, .inl (cJ, 11264, .inr (.inl d_table)))]) hD hS hA [0, 1, 2, 3, 4, 5, 6, 7, 8, 9, 10, 11] rfl
        refine va_calli (va_runV (As := [.int 1, .int 1, .int 1, .int 1]) (rest := []) ⟨hx, hb, hml, hown, hts⟩ (c_D_goes l dC dI cI cZ cJ dq dq8 dq9 dq10 dq11 dq12 dq13 dq14 dq15 dq18 dq19 dq20 s.heap.size d_thrown d_today d_cut d_aging d_saleFrom d_pieces d_orders d_piece d_order d_came d_worth d_used d_usedBy d_reservedFor d_reservedTo d_ran d_sum d_pieceDual d_orderDual d_table 1 1 1 1 N (r13, u14) hc) (cwV 4 hts (gV (w0 670 rfl) (w0 671 rfl) (w0 18 rfl) (w0 33 rfl) (w0 672 rfl)) rfl rfl rfl q_D_goes ⟨Nat.le_of_ble_eq_true rfl, Nat.le_of_ble_eq_true rfl⟩) (wr_preV hK hPc hDc hN 5 0 (R_D, F_D, 20) rfl rfl) rfl rfl hl.1 rfl (lv_room (Nat.le_of_ble_eq_true rfl)) d_D_rules_42 ⟨Nat.le_of_ble_eq_true rfl, Nat.le_of_ble_eq_true rfl⟩) hS (fun q _ h => hFc q h) hFc (fun r9 u t H1 locs ht hvm hw hB hz1 hk1 hS => ?_)
        subst hw
        obtain ⟨hP1, hK1, hD1⟩ := hB
        rw [ht] at hP1
        obtain ⟨hP, hD⟩ := va_join (wr := []) (w1 := [(dq, .inr (5, [.int u14, .int d_today, .int d_cut, .int d_aging, .int d_saleFrom, .int d_pieces, .int d_orders, .ref dq8, .ref dq9, .ref dq10, .ref dq11, .ref dq12, .ref dq13, .ref dq14, .ref dq15, .int d_ran, .int d_sum, .ref dq18, .ref dq19, .ref dq20])), (dq8, .inl (cI, 40, .inl d_piece)), (dq9, .inl (cI, 40, .inl d_order)), (dq10, .inl (cI, 10, .inl d_came)), (dq11, .inl (cI, 100, .inl d_worth)), (dq12, .inl (cZ, 10, .inl d_used)), (dq13, .inl (cI, 10, .inl d_usedBy)), (dq14, .inl (cI, 10, .inl d_reservedFor)), (dq15, .inl (cI, 10, .inl d_reservedTo)), (dq18, .inl (cI, 10, .inl d_pieceDual)), (dq19, .inl (cI, 10, .inl d_orderDual)), (dq20, .inl (cJ, 11264, .inr (.inl d_table)))]) hP hD [0, 1, 2, 3, 4, 5, 6, 7, 8, 9, 10, 11] [] rfl rfl (by decide) (by decide) hk1 hFc hP1 hD1
        generalize H1 = H at hP hS ⊢
        have hP : va_P (dC, dI) classes [(dq, .inr (5, [.int u14, .int d_today, .int d_cut, .int d_aging, .int d_saleFrom, .int d_pieces, .int d_orders, .ref dq8, .ref dq9, .ref dq10, .ref dq11, .ref dq12, .ref dq13, .ref dq14, .ref dq15, .int d_ran, .int d_sum, .ref dq18, .ref dq19, .ref dq20])), (dq8, .inl (cI, 40, .inl d_piece)), (dq9, .inl (cI, 40, .inl d_order)), (dq10, .inl (cI, 10, .inl d_came)), (dq11, .inl (cI, 100, .inl d_worth)), (dq12, .inl (cZ, 10, .inl d_used)), (dq13, .inl (cI, 10, .inl d_usedBy)), (dq14, .inl (cI, 10, .inl d_reservedFor)), (dq15, .inl (cI, 10, .inl d_reservedTo)), (dq18, .inl (cI, 10, .inl d_pieceDual)), (dq19, .inl (cI, 10, .inl d_orderDual)), (dq20, .inl (cJ, 11264, .inr (.inl d_table)))] H := hP
        have hD : va_D A [(dq, .inr (5, [.int u14, .int d_today, .int d_cut, .int d_aging, .int d_saleFrom, .int d_pieces, .int d_orders, .ref dq8, .ref dq9, .ref dq10, .ref dq11, .ref dq12, .ref dq13, .ref dq14, .ref dq15, .int d_ran, .int d_sum, .ref dq18, .ref dq19, .ref dq20])), (dq8, .inl (cI, 40, .inl d_piece)), (dq9, .inl (cI, 40, .inl d_order)), (dq10, .inl (cI, 10, .inl d_came)), (dq11, .inl (cI, 100, .inl d_worth)), (dq12, .inl (cZ, 10, .inl d_used)), (dq13, .inl (cI, 10, .inl d_usedBy)), (dq14, .inl (cI, 10, .inl d_reservedFor)), (dq15, .inl (cI, 10, .inl d_reservedTo)), (dq18, .inl (cI, 10, .inl d_pieceDual)), (dq19, .inl (cI, 10, .inl d_orderDual)), (dq20, .inl (cJ, 11264, .inr (.inl d_table)))] := hD
        clear hP1 hD1 hPc hDc hFc hk1 hz1
        refine lv_if_ne (tgt := 49) hx hb d_D_rules_45 (by decide) (fun c9 => ?_) (fun c9 => ?_)
        · replace hm := if_f c9 hm
          refine lv_aload_n hx hb d_D_rules_49 rfl (lv_at hl 0 rfl) ?_
          refine lv_iload_n hx hb d_D_rules_50 rfl (lv_at hl 1 rfl) ?_
          refine va_put (D := (dC, dI)) (ci := 5) (v := .int x1) (ty := .int) (C := R_D) (T := F_D) (N := 20) hx hb hts hk1 t_D t_D_ok n_D hown hK hP hD hS 0 rfl rfl 2 (by decide) hk0 (fun _ h9 => h9) rfl (by decide +kernel) rfl rfl (Nat.le_of_ble_eq_true rfl) d_D_rules_51 (fun H locs hP hD hS => ?_)
          have hP : va_P (dC, dI) classes [(dq, .inr (5, [.int u14, .int d_today, .int x1, .int d_aging, .int d_saleFrom, .int d_pieces, .int d_orders, .ref dq8, .ref dq9, .ref dq10, .ref dq11, .ref dq12, .ref dq13, .ref dq14, .ref dq15, .int d_ran, .int d_sum, .ref dq18, .ref dq19, .ref dq20])), (dq8, .inl (cI, 40, .inl d_piece)), (dq9, .inl (cI, 40, .inl d_order)), (dq10, .inl (cI, 10, .inl d_came)), (dq11, .inl (cI, 100, .inl d_worth)), (dq12, .inl (cZ, 10, .inl d_used)), (dq13, .inl (cI, 10, .inl d_usedBy)), (dq14, .inl (cI, 10, .inl d_reservedFor)), (dq15, .inl (cI, 10, .inl d_reservedTo)), (dq18, .inl (cI, 10, .inl d_pieceDual)), (dq19, .inl (cI, 10, .inl d_orderDual)), (dq20, .inl (cJ, 11264, .inr (.inl d_table)))] H := hP
          have hD : va_D A [(dq, .inr (5, [.int u14, .int d_today, .int x1, .int d_aging, .int d_saleFrom, .int d_pieces, .int d_orders, .ref dq8, .ref dq9, .ref dq10, .ref dq11, .ref dq12, .ref dq13, .ref dq14, .ref dq15, .int d_ran, .int d_sum, .ref dq18, .ref dq19, .ref dq20])), (dq8, .inl (cI, 40, .inl d_piece)), (dq9, .inl (cI, 40, .inl d_order)), (dq10, .inl (cI, 10, .inl d_came)), (dq11, .inl (cI, 100, .inl d_worth)), (dq12, .inl (cZ, 10, .inl d_used)), (dq13, .inl (cI, 10, .inl d_usedBy)), (dq14, .inl (cI, 10, .inl d_reservedFor)), (dq15, .inl (cI, 10, .inl d_reservedTo)), (dq18, .inl (cI, 10, .inl d_pieceDual)), (dq19, .inl (cI, 10, .inl d_orderDual)), (dq20, .inl (cJ, 11264, .inr (.inl d_table)))] := hD
          refine lv_aload_n hx hb d_D_rules_54 rfl (lv_at hl 0 rfl) ?_
          refine lv_iload_n hx hb d_D_rules_55 rfl (lv_at hl 2 rfl) ?_
          refine va_put (D := (dC, dI)) (ci := 5) (v := .int x2) (ty := .int) (C := R_D) (T := F_D) (N := 20) hx hb hts hk1 t_D t_D_ok n_D hown hK hP hD hS 0 rfl rfl 3 (by decide) hk2 (fun _ h9 => h9) rfl (by decide +kernel) rfl rfl (Nat.le_of_ble_eq_true rfl) d_D_rules_56 (fun H locs hP hD hS => ?_)
          have hP : va_P (dC, dI) classes [(dq, .inr (5, [.int u14, .int d_today, .int x1, .int x2, .int d_saleFrom, .int d_pieces, .int d_orders, .ref dq8, .ref dq9, .ref dq10, .ref dq11, .ref dq12, .ref dq13, .ref dq14, .ref dq15, .int d_ran, .int d_sum, .ref dq18, .ref dq19, .ref dq20])), (dq8, .inl (cI, 40, .inl d_piece)), (dq9, .inl (cI, 40, .inl d_order)), (dq10, .inl (cI, 10, .inl d_came)), (dq11, .inl (cI, 100, .inl d_worth)), (dq12, .inl (cZ, 10, .inl d_used)), (dq13, .inl (cI, 10, .inl d_usedBy)), (dq14, .inl (cI, 10, .inl d_reservedFor)), (dq15, .inl (cI, 10, .inl d_reservedTo)), (dq18, .inl (cI, 10, .inl d_pieceDual)), (dq19, .inl (cI, 10, .inl d_orderDual)), (dq20, .inl (cJ, 11264, .inr (.inl d_table)))] H := hP
          have hD : va_D A [(dq, .inr (5, [.int u14, .int d_today, .int x1, .int x2, .int d_saleFrom, .int d_pieces, .int d_orders, .ref dq8, .ref dq9, .ref dq10, .ref dq11, .ref dq12, .ref dq13, .ref dq14, .ref dq15, .int d_ran, .int d_sum, .ref dq18, .ref dq19, .ref dq20])), (dq8, .inl (cI, 40, .inl d_piece)), (dq9, .inl (cI, 40, .inl d_order)), (dq10, .inl (cI, 10, .inl d_came)), (dq11, .inl (cI, 100, .inl d_worth)), (dq12, .inl (cZ, 10, .inl d_used)), (dq13, .inl (cI, 10, .inl d_usedBy)), (dq14, .inl (cI, 10, .inl d_reservedFor)), (dq15, .inl (cI, 10, .inl d_reservedTo)), (dq18, .inl (cI, 10, .inl d_pieceDual)), (dq19, .inl (cI, 10, .inl d_orderDual)), (dq20, .inl (cJ, 11264, .inr (.inl d_table)))] := hD
          refine lv_aload_n hx hb d_D_rules_59 rfl (lv_at hl 0 rfl) ?_
          refine lv_iload_n hx hb d_D_rules_60 rfl (lv_at hl 3 rfl) ?_
          refine va_put (D := (dC, dI)) (ci := 5) (v := .int x3) (ty := .int) (C := R_D) (T := F_D) (N := 20) hx hb hts hk1 t_D t_D_ok n_D hown hK hP hD hS 0 rfl rfl 4 (by decide) hk3 (fun _ h9 => h9) rfl (by decide +kernel) rfl rfl (Nat.le_of_ble_eq_true rfl) d_D_rules_61 (fun H locs hP hD hS => ?_)
          have hP : va_P (dC, dI) classes [(dq, .inr (5, [.int u14, .int d_today, .int x1, .int x2, .int x3, .int d_pieces, .int d_orders, .ref dq8, .ref dq9, .ref dq10, .ref dq11, .ref dq12, .ref dq13, .ref dq14, .ref dq15, .int d_ran, .int d_sum, .ref dq18, .ref dq19, .ref dq20])), (dq8, .inl (cI, 40, .inl d_piece)), (dq9, .inl (cI, 40, .inl d_order)), (dq10, .inl (cI, 10, .inl d_came)), (dq11, .inl (cI, 100, .inl d_worth)), (dq12, .inl (cZ, 10, .inl d_used)), (dq13, .inl (cI, 10, .inl d_usedBy)), (dq14, .inl (cI, 10, .inl d_reservedFor)), (dq15, .inl (cI, 10, .inl d_reservedTo)), (dq18, .inl (cI, 10, .inl d_pieceDual)), (dq19, .inl (cI, 10, .inl d_orderDual)), (dq20, .inl (cJ, 11264, .inr (.inl d_table)))] H := hP
          have hD : va_D A [(dq, .inr (5, [.int u14, .int d_today, .int x1, .int x2, .int x3, .int d_pieces, .int d_orders, .ref dq8, .ref dq9, .ref dq10, .ref dq11, .ref dq12, .ref dq13, .ref dq14, .ref dq15, .int d_ran, .int d_sum, .ref dq18, .ref dq19, .ref dq20])), (dq8, .inl (cI, 40, .inl d_piece)), (dq9, .inl (cI, 40, .inl d_order)), (dq10, .inl (cI, 10, .inl d_came)), (dq11, .inl (cI, 100, .inl d_worth)), (dq12, .inl (cZ, 10, .inl d_used)), (dq13, .inl (cI, 10, .inl d_usedBy)), (dq14, .inl (cI, 10, .inl d_reservedFor)), (dq15, .inl (cI, 10, .inl d_reservedTo)), (dq18, .inl (cI, 10, .inl d_pieceDual)), (dq19, .inl (cI, 10, .inl d_orderDual)), (dq20, .inl (cJ, 11264, .inr (.inl d_table)))] := hD
          cases hm
          refine W.widen (k := 0) (n := 0) (Nat.le_of_ble_eq_true rfl) (Nat.le_of_ble_eq_true rfl) ?_
          exact W.vret hx hb hr (fun t ht hW => ⟨⟨(), rfl, trivial, by rw [ht]; exact hP, va_K.moved hW.alike hK, hD⟩, hS.F ht⟩) hS.2.2 d_D_rules_64
        · replace hm := if_t c9 hm
          cases hm
          refine W.widen (k := 0) (n := 0) (Nat.le_of_ble_eq_true rfl) (Nat.le_of_ble_eq_true rfl) ?_
          exact W.vret hx hb hr (fun t ht hW => ⟨⟨(), rfl, trivial, by rw [ht]; exact hP, va_K.moved hW.alike hK, hD⟩, hS.F ht⟩) hS.2.2 d_D_rules_48

def w_D_fits : List Cond := .code y_D_fits b_D_fits 3 (some .boolean) :: W0
theorem q_D_fits : y_D_fits.cls = R_D ∧ y_D_fits.cls ≠ "java/lang/invoke/MethodHandle" ∧ y_D_fits.cls ≠ "java/lang/invoke/VarHandle" ∧ (parseMethodDescriptor y_D_fits.desc).map (fun d => d.parameters.length) = some 2 := by decide +kernel
def m_D_fits (d_pieces : Int32) (d_orders : Int32) (d_piece : Nat → Int32) (d_order : Nat → Int32) (x1 : Int32) (x2 : Int32) : Option (Int32 × Int32) :=
  ((m_D_isPiece d_pieces x1).bind fun r1 =>
  (if r1 = 0 then
    ((m_D_goes 0 1 1 1).bind fun (r2, u3) =>
      (if r2 = 0 then
        some (0, u3)
       else
        ((m_D_isFit d_piece d_order x1 x2).bind fun r4 =>
          (if r4 = 0 then
            some (0, u3)
           else
            some (1, u3)))))
   else
    ((m_D_isOrder d_orders x2).bind fun r7 =>
      (if r7 = 0 then
        ((m_D_goes 0 1 1 1).bind fun (r8, u9) =>
          (if r8 = 0 then
            some (0, u9)
           else
            ((m_D_isFit d_piece d_order x1 x2).bind fun r10 =>
              (if r10 = 0 then
                some (0, u9)
               else
                some (1, u9)))))
       else
        ((m_D_goes 1 1 1 1).bind fun (r13, u14) =>
          (if r13 = 0 then
            some (0, u14)
           else
            ((m_D_isFit d_piece d_order x1 x2).bind fun r15 =>
              (if r15 = 0 then
                some (0, u14)
               else
                some (1, u14)))))))))
set_option maxHeartbeats 4000000 in
set_option maxRecDepth 100000 in
theorem c_D_fits (l : Launch) (dC : Nat → ClassId) (dI : Nat → Nat → Nat) (cI cZ cJ : ClassId) (dq dq8 dq9 dq10 dq11 dq12 dq13 dq14 dq15 dq18 dq19 dq20 : Nat) (sz : Nat) (d_thrown : Int32) (d_today : Int32) (d_cut : Int32) (d_aging : Int32) (d_saleFrom : Int32) (d_pieces : Int32) (d_orders : Int32) (d_piece : Nat → Int32) (d_order : Nat → Int32) (d_came : Nat → Int32) (d_worth : Nat → Int32) (d_used : Nat → Int32) (d_usedBy : Nat → Int32) (d_reservedFor : Nat → Int32) (d_reservedTo : Nat → Int32) (d_ran : Int32) (d_sum : Int32) (d_pieceDual : Nat → Int32) (d_orderDual : Nat → Int32) (d_table : Nat → Int64) (x1 : Int32) (x2 : Int32) (N : Nat) (res : Int32 × Int32) (hm : m_D_fits d_pieces d_orders d_piece d_order x1 x2 = some res) : Met l y_D_fits w_D_fits ({ frames := 2, cells := 0, slots := 0, locals := 43 } : Room) (va_Pc [.ref dq, .int x1, .int x2] (fun U => U.heap.size = sz ∧ va_P (dC, dI) classes [(dq, .inr (5, [.int d_thrown, .int d_today, .int d_cut, .int d_aging, .int d_saleFrom, .int d_pieces, .int d_orders, .ref dq8, .ref dq9, .ref dq10, .ref dq11, .ref dq12, .ref dq13, .ref dq14, .ref dq15, .int d_ran, .int d_sum, .ref dq18, .ref dq19, .ref dq20])), (dq8, .inl (cI, 40, .inl d_piece)), (dq9, .inl (cI, 40, .inl d_order)), (dq10, .inl (cI, 10, .inl d_came)), (dq11, .inl (cI, 100, .inl d_worth)), (dq12, .inl (cZ, 10, .inl d_used)), (dq13, .inl (cI, 10, .inl d_usedBy)), (dq14, .inl (cI, 10, .inl d_reservedFor)), (dq15, .inl (cI, 10, .inl d_reservedTo)), (dq18, .inl (cI, 10, .inl d_pieceDual)), (dq19, .inl (cI, 10, .inl d_orderDual)), (dq20, .inl (cJ, 11264, .inr (.inl d_table)))] U.heap ∧ va_K (dC, dI) classes [(cI, .int), (cZ, .boolean), (cJ, .long)] U ∧ va_D (fun _ => True) [(dq, .inr (5, [.int d_thrown, .int d_today, .int d_cut, .int d_aging, .int d_saleFrom, .int d_pieces, .int d_orders, .ref dq8, .ref dq9, .ref dq10, .ref dq11, .ref dq12, .ref dq13, .ref dq14, .ref dq15, .int d_ran, .int d_sum, .ref dq18, .ref dq19, .ref dq20])), (dq8, .inl (cI, 40, .inl d_piece)), (dq9, .inl (cI, 40, .inl d_order)), (dq10, .inl (cI, 10, .inl d_came)), (dq11, .inl (cI, 100, .inl d_worth)), (dq12, .inl (cZ, 10, .inl d_used)), (dq13, .inl (cI, 10, .inl d_usedBy)), (dq14, .inl (cI, 10, .inl d_reservedFor)), (dq15, .inl (cI, 10, .inl d_reservedTo)), (dq18, .inl (cI, 10, .inl d_pieceDual)), (dq19, .inl (cI, 10, .inl d_orderDual)), (dq20, .inl (cJ, 11264, .inr (.inl d_table)))] ∧ nw U)) (va_Qi (fun (x : Int32) (_ : Unit) => res.1 = x) (fun _ t => va_P (dC, dI) classes [(dq, .inr (5, [.int res.2, .int d_today, .int d_cut, .int d_aging, .int d_saleFrom, .int d_pieces, .int d_orders, .ref dq8, .ref dq9, .ref dq10, .ref dq11, .ref dq12, .ref dq13, .ref dq14, .ref dq15, .int d_ran, .int d_sum, .ref dq18, .ref dq19, .ref dq20])), (dq8, .inl (cI, 40, .inl d_piece)), (dq9, .inl (cI, 40, .inl d_order)), (dq10, .inl (cI, 10, .inl d_came)), (dq11, .inl (cI, 100, .inl d_worth)), (dq12, .inl (cZ, 10, .inl d_used)), (dq13, .inl (cI, 10, .inl d_usedBy)), (dq14, .inl (cI, 10, .inl d_reservedFor)), (dq15, .inl (cI, 10, .inl d_reservedTo)), (dq18, .inl (cI, 10, .inl d_pieceDual)), (dq19, .inl (cI, 10, .inl d_orderDual)), (dq20, .inl (cJ, 11264, .inr (.inl d_table)))] t.heap ∧ va_K (dC, dI) classes [(cI, .int), (cZ, .boolean), (cJ, .long)] t ∧ va_D (va_A [(dq, .inr (5, [.int d_thrown, .int d_today, .int d_cut, .int d_aging, .int d_saleFrom, .int d_pieces, .int d_orders, .ref dq8, .ref dq9, .ref dq10, .ref dq11, .ref dq12, .ref dq13, .ref dq14, .ref dq15, .int d_ran, .int d_sum, .ref dq18, .ref dq19, .ref dq20])), (dq8, .inl (cI, 40, .inl d_piece)), (dq9, .inl (cI, 40, .inl d_order)), (dq10, .inl (cI, 10, .inl d_came)), (dq11, .inl (cI, 100, .inl d_worth)), (dq12, .inl (cZ, 10, .inl d_used)), (dq13, .inl (cI, 10, .inl d_usedBy)), (dq14, .inl (cI, 10, .inl d_reservedFor)), (dq15, .inl (cI, 10, .inl d_reservedTo)), (dq18, .inl (cI, 10, .inl d_pieceDual)), (dq19, .inl (cI, 10, .inl d_orderDual)), (dq20, .inl (cJ, 11264, .inr (.inl d_table)))] sz) [(dq, .inr (5, [.int res.2, .int d_today, .int d_cut, .int d_aging, .int d_saleFrom, .int d_pieces, .int d_orders, .ref dq8, .ref dq9, .ref dq10, .ref dq11, .ref dq12, .ref dq13, .ref dq14, .ref dq15, .int d_ran, .int d_sum, .ref dq18, .ref dq19, .ref dq20])), (dq8, .inl (cI, 40, .inl d_piece)), (dq9, .inl (cI, 40, .inl d_order)), (dq10, .inl (cI, 10, .inl d_came)), (dq11, .inl (cI, 100, .inl d_worth)), (dq12, .inl (cZ, 10, .inl d_used)), (dq13, .inl (cI, 10, .inl d_usedBy)), (dq14, .inl (cI, 10, .inl d_reservedFor)), (dq15, .inl (cI, 10, .inl d_reservedTo)), (dq18, .inl (cI, 10, .inl d_pieceDual)), (dq19, .inl (cI, 10, .inl d_orderDual)), (dq20, .inl (cJ, 11264, .inr (.inl d_table)))]) (va_A [(dq, .inr (5, [.int d_thrown, .int d_today, .int d_cut, .int d_aging, .int d_saleFrom, .int d_pieces, .int d_orders, .ref dq8, .ref dq9, .ref dq10, .ref dq11, .ref dq12, .ref dq13, .ref dq14, .ref dq15, .int d_ran, .int d_sum, .ref dq18, .ref dq19, .ref dq20])), (dq8, .inl (cI, 40, .inl d_piece)), (dq9, .inl (cI, 40, .inl d_order)), (dq10, .inl (cI, 10, .inl d_came)), (dq11, .inl (cI, 100, .inl d_worth)), (dq12, .inl (cZ, 10, .inl d_used)), (dq13, .inl (cI, 10, .inl d_usedBy)), (dq14, .inl (cI, 10, .inl d_reservedFor)), (dq15, .inl (cI, 10, .inl d_reservedTo)), (dq18, .inl (cI, 10, .inl d_pieceDual)), (dq19, .inl (cI, 10, .inl d_orderDual)), (dq20, .inl (cJ, 11264, .inr (.inl d_table)))] sz)) 0 0 (va_A [(dq, .inr (5, [.int d_thrown, .int d_today, .int d_cut, .int d_aging, .int d_saleFrom, .int d_pieces, .int d_orders, .ref dq8, .ref dq9, .ref dq10, .ref dq11, .ref dq12, .ref dq13, .ref dq14, .ref dq15, .int d_ran, .int d_sum, .ref dq18, .ref dq19, .ref dq20])), (dq8, .inl (cI, 40, .inl d_piece)), (dq9, .inl (cI, 40, .inl d_order)), (dq10, .inl (cI, 10, .inl d_came)), (dq11, .inl (cI, 100, .inl d_worth)), (dq12, .inl (cZ, 10, .inl d_used)), (dq13, .inl (cI, 10, .inl d_usedBy)), (dq14, .inl (cI, 10, .inl d_reservedFor)), (dq15, .inl (cI, 10, .inl d_reservedTo)), (dq18, .inl (cI, 10, .inl d_pieceDual)), (dq19, .inl (cI, 10, .inl d_orderDual)), (dq20, .inl (cJ, 11264, .inr (.inl d_table)))] sz) := by
  unfold m_D_fits at hm
  refine Met.ofW (cc := b_D_fits) (maxL := 3) (ret := (some .boolean)) (by decide) rfl ?_
  intro p e s m args below meth c s₁ B hml hv
  obtain ⟨rfl, hsz, hP, hK, hD0, hN⟩ := hv
  have hx := B.exec
  have hb := B.bytes
  have hr := B.returns
  have hts := atoms_spec (ws := w_D_fits) B.pre
  have hown : s.vm.findClass R_D = some m.cls := findClass_of_methodNamed B.named
  have hlocks := B.notSynchronized
  subst hsz
  have hD := hD0.self (sz := s.heap.size)
  generalize hAe : va_A [(dq, .inr (5, [.int d_thrown, .int d_today, .int d_cut, .int d_aging, .int d_saleFrom, .int d_pieces, .int d_orders, .ref dq8, .ref dq9, .ref dq10, .ref dq11, .ref dq12, .ref dq13, .ref dq14, .ref dq15, .int d_ran, .int d_sum, .ref dq18, .ref dq19, .ref dq20])), (dq8, .inl (cI, 40, .inl d_piece)), (dq9, .inl (cI, 40, .inl d_order)), (dq10, .inl (cI, 10, .inl d_came)), (dq11, .inl (cI, 100, .inl d_worth)), (dq12, .inl (cZ, 10, .inl d_used)), (dq13, .inl (cI, 10, .inl d_usedBy)), (dq14, .inl (cI, 10, .inl d_reservedFor)), (dq15, .inl (cI, 10, .inl d_reservedTo)), (dq18, .inl (cI, 10, .inl d_pieceDual)), (dq19, .inl (cI, 10, .inl d_orderDual)), (dq20, .inl (cJ, 11264, .inr (.inl d_table)))] s.heap.size = A at hD ⊢
  have hA : ∀ q : Nat, s.heap.size ≤ q → A q := fun q h => by rw [← hAe]; exact Or.inr h
  have hS : va_S A s.heap s.heap [] := va_S.rf
  have hl := lv_entry ([.ref dq, .int x1, .int x2]) (n := 3) (Nat.le_of_ble_eq_true rfl)
  rw [lg_entry_eq]
  generalize (lg_sl ([.ref dq, .int x1, .int x2]) ++ List.replicate (3 - (lg_sl ([.ref dq, .int x1, .int x2])).length) Slot.unset).toArray = ls at hl ⊢
  have hl : lv_has ls 3 [(0, .ref dq), (1, .int x1), (2, .int x2)] := hl
  refine lv_aload_n hx hb d_D_fits_0 rfl (lv_at hl 0 rfl) ?_
  refine lv_aload_n hx hb d_D_fits_1 rfl (lv_at hl 0 rfl) ?_
  refine lv_iload_n hx hb d_D_fits_2 rfl (lv_at hl 1 rfl) ?_
  obtain ⟨r1, hc, hm⟩ := bd hm
  try dsimp only at hm
  refine vp_callSi (W.runV (As := [.int x1]) (rest := [.ref dq]) ⟨hx, hb, hml, hown, hts⟩ (c_D_isPiece l dC dI cI cZ cJ dq dq8 dq9 dq10 dq11 dq12 dq13 dq14 dq15 dq18 dq19 dq20 d_thrown d_today d_cut d_aging d_saleFrom d_pieces d_orders d_piece d_order d_came d_worth d_used d_usedBy d_reservedFor d_reservedTo d_ran d_sum d_pieceDual d_orderDual d_table x1 N r1 hc) (cwV 1 hts (gV (w0 681 rfl) (w0 682 rfl) (w0 19 rfl) (w0 33 rfl) (w0 683 rfl)) rfl rfl rfl q_D_isPiece ⟨Nat.le_of_ble_eq_true rfl, Nat.le_of_ble_eq_true rfl⟩) (ro_preV [0, 1, 2, 3, 4, 5, 6, 7, 8, 9, 10, 11] rfl hK hP hN 5 0 (R_D, F_D, 20) rfl rfl) rfl rfl hl.1 rfl (lv_room (Nat.le_of_ble_eq_true rfl)) d_D_fits_3 ⟨Nat.le_of_ble_eq_true rfl, Nat.le_of_ble_eq_true rfl⟩) (fun r9 hr9 => ?_)
  subst hr9
  refine lv_if_eq (tgt := 21) hx hb d_D_fits_6 (by decide) (fun c9 => ?_) (fun c9 => ?_)
  · replace hm := if_t c9 hm
    refine lv_iconst (v := 0) hx hb d_D_fits_21 (by decide) ?_
    refine lv_iconst (v := 1) hx hb d_D_fits_22 (by decide) ?_
    refine lv_iconst (v := 1) hx hb d_D_fits_23 (by decide) ?_
    refine lv_iconst (v := 1) hx hb d_D_fits_24 (by decide) ?_
    obtain ⟨⟨r2, u3⟩, hc, hm⟩ := bd hm
    try dsimp only at hm
    have hPc := hP.sub (ws' := [(dq, .inr (5, [.int d_thrown, .int d_today, .int d_cut, .int d_aging, .int d_saleFrom, .int d_pieces, .int d_orders, .ref dq8, .ref dq9, .ref dq10, .ref dq11, .ref dq12, .ref dq13, .ref dq14, .ref dq15, .int d_ran, .int d_sum, .ref dq18, .ref dq19, .ref dq20])), (dq8, .inl (cI, 40, .inl d_piece)), (dq9, .inl (cI, 40, .inl d_order)), (dq10, .inl (cI, 10, .inl d_came)), (dq11, .inl (cI, 100, .inl d_worth)), (dq12, .inl (cZ, 10, .inl d_used)), (dq13, .inl (cI, 10, .inl d_usedBy)), (dq14, .inl (cI, 10, .inl d_reservedFor)), (dq15, .inl (cI, 10, .inl d_reservedTo)), (dq18, .inl (cI, 10, .inl d_pieceDual)), (dq19, .inl (cI, 10, .inl d_orderDual)), (dq20, .inl (cJ, 11264, .inr (.inl d_table)))]) [0, 1, 2, 3, 4, 5, 6, 7, 8, 9, 10, 11] rfl
    have hDc := hD.sub (ws' := [(dq, .inr (5, [.int d_thrown, .int d_today, .int d_cut, .int d_aging, .int d_saleFrom, .int d_pieces, .int d_orders, .ref dq8, .ref dq9, .ref dq10, .ref dq11, .ref dq12, .ref dq13, .ref dq14, .ref dq15, .int d_ran, .int d_sum, .ref dq18, .ref dq19, .ref dq20])), (dq8, .inl (cI, 40, .inl d_piece)), (dq9, .inl (cI, 40, .inl d_order)), (dq10, .inl (cI, 10, .inl d_came)), (dq11, .inl (cI, 100, .inl d_worth)), (dq12, .inl (cZ, 10, .inl d_used)), (dq13, .inl (cI, 10, .inl d_usedBy)), (dq14, .inl (cI, 10, .inl d_reservedFor)), (dq15, .inl (cI, 10, .inl d_reservedTo)), (dq18, .inl (cI, 10, .inl d_pieceDual)), (dq19, .inl (cI, 10, .inl d_orderDual)), (dq20, .inl (cJ, 11264, .inr (.inl d_table)))]) [0, 1, 2, 3, 4, 5, 6, 7, 8, 9, 10, 11] (by decide) rfl
    have hFc := va_free (wc := [(dq, .inr (5, [.int d_thrown, .int d_today, .int d_cut, .int d_aging, .int d_saleFrom, .int d_pieces, .int d_orders, .ref dq8, .ref dq9, .ref dq10, .ref dq11, .ref dq12, .ref dq13, .ref dq14, .ref dq15, .int d_ran, .int d_sum, .ref dq18, .ref dq19, .ref dq20])), (dq8, .inl (cI, 40, .inl d_piece)), (dq9, .inl (cI, 40, .inl d_order)), (dq10, .inl (cI, 10, .inl d_came)), (dq11, .inl (cI, 100, .inl d_worth)), (dq12, .inl (cZ, 10, .inl d_used)), (dq13, .inl (cI, 10, .inl d_usedBy)), (dq14, .inl (cI, 10, .inl d_reservedFor)), (dq15, .inl (cI, 10, .inl d_reservedTo)), (dq18, .inl (cI, 10, .inl d_pieceDual)), (dq19, .inl (cI, 10, .inl d_orderDual)), (dq20, .inl (cJ, 11264, .inr (.inl d_table)))]) hD hS hA [0, 1, 2, 3, 4, 5, 6, 7, 8, 9, 10, 11] rfl
    refine va_calli (va_runV (As := [.int 0, .int 1, .int 1, .int 1]) (rest := []) ⟨hx, hb, hml, hown, hts⟩ (c_D_goes l dC dI cI cZ cJ dq dq8 dq9 dq10 dq11 dq12 dq13 dq14 dq15 dq18 dq19 dq20 s.heap.size d_thrown d_today d_cut d_aging d_saleFrom d_pieces d_orders d_piece d_order d_came d_worth d_used d_usedBy d_reservedFor d_reservedTo d_ran d_sum d_pieceDual d_orderDual d_table 0 1 1 1 N (r2, u3) hc) (cwV 4 hts (gV (w0 670 rfl) (w0 671 rfl) (w0 18 rfl) (w0 33 rfl) (w0 672 rfl)) rfl rfl rfl q_D_goes ⟨Nat.le_of_ble_eq_true rfl, Nat.le_of_ble_eq_true rfl⟩) (wr_preV hK hPc hDc hN 5 0 (R_D, F_D, 20) rfl rfl) rfl rfl hl.1 rfl (lv_room (Nat.le_of_ble_eq_true rfl)) d_D_fits_25 ⟨Nat.le_of_ble_eq_true rfl, Nat.le_of_ble_eq_true rfl⟩) hS (fun q _ h => hFc q h) hFc (fun r9 u t H1 locs ht hvm hw hB hz1 hk1 hS => ?_)
    subst hw
    obtain ⟨hP1, hK1, hD1⟩ := hB
    rw [ht] at hP1
    obtain ⟨hP, hD⟩ := va_join (wr := []) (w1 := [(dq, .inr (5, [.int u3, .int d_today, .int d_cut, .int d_aging, .int d_saleFrom, .int d_pieces, .int d_orders, .ref dq8, .ref dq9, .ref dq10, .ref dq11, .ref dq12, .ref dq13, .ref dq14, .ref dq15, .int d_ran, .int d_sum, .ref dq18, .ref dq19, .ref dq20])), (dq8, .inl (cI, 40, .inl d_piece)), (dq9, .inl (cI, 40, .inl d_order)), (dq10, .inl (cI, 10, .inl d_came)), (dq11, .inl (cI, 100, .inl d_worth)), (dq12, .inl (cZ, 10, .inl d_used)), (dq13, .inl (cI, 10, .inl d_usedBy)), (dq14, .inl (cI, 10, .inl d_reservedFor)), (dq15, .inl (cI, 10, .inl d_reservedTo)), (dq18, .inl (cI, 10, .inl d_pieceDual)), (dq19, .inl (cI, 10, .inl d_orderDual)), (dq20, .inl (cJ, 11264, .inr (.inl d_table)))]) hP hD [0, 1, 2, 3, 4, 5, 6, 7, 8, 9, 10, 11] [] rfl rfl (by decide) (by decide) hk1 hFc hP1 hD1
    generalize H1 = H at hP hS ⊢
    have hP : va_P (dC, dI) classes [(dq, .inr (5, [.int u3, .int d_today, .int d_cut, .int d_aging, .int d_saleFrom, .int d_pieces, .int d_orders, .ref dq8, .ref dq9, .ref dq10, .ref dq11, .ref dq12, .ref dq13, .ref dq14, .ref dq15, .int d_ran, .int d_sum, .ref dq18, .ref dq19, .ref dq20])), (dq8, .inl (cI, 40, .inl d_piece)), (dq9, .inl (cI, 40, .inl d_order)), (dq10, .inl (cI, 10, .inl d_came)), (dq11, .inl (cI, 100, .inl d_worth)), (dq12, .inl (cZ, 10, .inl d_used)), (dq13, .inl (cI, 10, .inl d_usedBy)), (dq14, .inl (cI, 10, .inl d_reservedFor)), (dq15, .inl (cI, 10, .inl d_reservedTo)), (dq18, .inl (cI, 10, .inl d_pieceDual)), (dq19, .inl (cI, 10, .inl d_orderDual)), (dq20, .inl (cJ, 11264, .inr (.inl d_table)))] H := hP
    have hD : va_D A [(dq, .inr (5, [.int u3, .int d_today, .int d_cut, .int d_aging, .int d_saleFrom, .int d_pieces, .int d_orders, .ref dq8, .ref dq9, .ref dq10, .ref dq11, .ref dq12, .ref dq13, .ref dq14, .ref dq15, .int d_ran, .int d_sum, .ref dq18, .ref dq19, .ref dq20])), (dq8, .inl (cI, 40, .inl d_piece)), (dq9, .inl (cI, 40, .inl d_order)), (dq10, .inl (cI, 10, .inl d_came)), (dq11, .inl (cI, 100, .inl d_worth)), (dq12, .inl (cZ, 10, .inl d_used)), (dq13, .inl (cI, 10, .inl d_usedBy)), (dq14, .inl (cI, 10, .inl d_reservedFor)), (dq15, .inl (cI, 10, .inl d_reservedTo)), (dq18, .inl (cI, 10, .inl d_pieceDual)), (dq19, .inl (cI, 10, .inl d_orderDual)), (dq20, .inl (cJ, 11264, .inr (.inl d_table)))] := hD
    clear hP1 hD1 hPc hDc hFc hk1 hz1
    refine lv_if_eq (tgt := 44) hx hb d_D_fits_28 (by decide) (fun c9 => ?_) (fun c9 => ?_)
    · replace hm := if_t c9 hm
      refine lv_iconst (v := 0) hx hb d_D_fits_44 (by decide) ?_
      cases hm
      refine W.widen (k := 0) (n := 0) (Nat.le_of_ble_eq_true rfl) (Nat.le_of_ble_eq_true rfl) ?_
      exact W.zret hx hb hr (by decide) (fun t ht hW => ⟨⟨_, (), rfl, rfl, by rw [ht]; exact hP, va_K.moved hW.alike hK, hD⟩, hS.F ht⟩) hS.2.2 d_D_fits_45
    · replace hm := if_f c9 hm
      refine lv_aload_n hx hb d_D_fits_31 rfl (lv_at hl 0 rfl) ?_
      refine lv_iload_n hx hb d_D_fits_32 rfl (lv_at hl 1 rfl) ?_
      refine lv_iload_n hx hb d_D_fits_33 rfl (lv_at hl 2 rfl) ?_
      obtain ⟨r4, hc, hm⟩ := bd hm
      try dsimp only at hm
      refine vp_callSi (W.runV (As := [.int x1, .int x2]) (rest := []) ⟨hx, hb, hml, hown, hts⟩ (c_D_isFit l dC dI cI cZ cJ dq dq8 dq9 dq10 dq11 dq12 dq13 dq14 dq15 dq18 dq19 dq20 u3 d_today d_cut d_aging d_saleFrom d_pieces d_orders d_piece d_order d_came d_worth d_used d_usedBy d_reservedFor d_reservedTo d_ran d_sum d_pieceDual d_orderDual d_table x1 x2 N r4 hc) (cwV 2 hts (gV (w0 688 rfl) (w0 689 rfl) (w0 21 rfl) (w0 33 rfl) (w0 690 rfl)) rfl rfl rfl q_D_isFit ⟨Nat.le_of_ble_eq_true rfl, Nat.le_of_ble_eq_true rfl⟩) (ro_preV [0, 1, 2, 3, 4, 5, 6, 7, 8, 9, 10, 11] rfl hK hP hN 5 0 (R_D, F_D, 20) rfl rfl) rfl rfl hl.1 rfl (lv_room (Nat.le_of_ble_eq_true rfl)) d_D_fits_34 ⟨Nat.le_of_ble_eq_true rfl, Nat.le_of_ble_eq_true rfl⟩) (fun r9 hr9 => ?_)
      subst hr9
      refine lv_if_eq (tgt := 44) hx hb d_D_fits_37 (by decide) (fun c9 => ?_) (fun c9 => ?_)
      · replace hm := if_t c9 hm
        refine lv_iconst (v := 0) hx hb d_D_fits_44 (by decide) ?_
        cases hm
        refine W.widen (k := 0) (n := 0) (Nat.le_of_ble_eq_true rfl) (Nat.le_of_ble_eq_true rfl) ?_
        exact W.zret hx hb hr (by decide) (fun t ht hW => ⟨⟨_, (), rfl, rfl, by rw [ht]; exact hP, va_K.moved hW.alike hK, hD⟩, hS.F ht⟩) hS.2.2 d_D_fits_45
      · replace hm := if_f c9 hm
        refine lv_iconst (v := 1) hx hb d_D_fits_40 (by decide) ?_
        refine lv_goto (tgt := 45) hx hb d_D_fits_41 (by decide) ?_
        cases hm
        refine W.widen (k := 0) (n := 0) (Nat.le_of_ble_eq_true rfl) (Nat.le_of_ble_eq_true rfl) ?_
        exact W.zret hx hb hr (by decide) (fun t ht hW => ⟨⟨_, (), rfl, rfl, by rw [ht]; exact hP, va_K.moved hW.alike hK, hD⟩, hS.F ht⟩) hS.2.2 d_D_fits_45
  · replace hm := if_f c9 hm
    refine lv_aload_n hx hb d_D_fits_9 rfl (lv_at hl 0 rfl) ?_
    refine lv_iload_n hx hb d_D_fits_10 rfl (lv_at hl 2 rfl) ?_
    obtain ⟨r7, hc, hm⟩ := bd hm
    try dsimp only at hm
    refine vp_callSi (W.runV (As := [.int x2]) (rest := [.ref dq]) ⟨hx, hb, hml, hown, hts⟩ (c_D_isOrder l dC dI cI cZ cJ dq dq8 dq9 dq10 dq11 dq12 dq13 dq14 dq15 dq18 dq19 dq20 d_thrown d_today d_cut d_aging d_saleFrom d_pieces d_orders d_piece d_order d_came d_worth d_used d_usedBy d_reservedFor d_reservedTo d_ran d_sum d_pieceDual d_orderDual d_table x2 N r7 hc) (cwV 1 hts (gV (w0 684 rfl) (w0 685 rfl) (w0 20 rfl) (w0 33 rfl) (w0 686 rfl)) rfl rfl rfl q_D_isOrder ⟨Nat.le_of_ble_eq_true rfl, Nat.le_of_ble_eq_true rfl⟩) (ro_preV [0, 1, 2, 3, 4, 5, 6, 7, 8, 9, 10, 11] rfl hK hP hN 5 0 (R_D, F_D, 20) rfl rfl) rfl rfl hl.1 rfl (lv_room (Nat.le_of_ble_eq_true rfl)) d_D_fits_11 ⟨Nat.le_of_ble_eq_true rfl, Nat.le_of_ble_eq_true rfl⟩) (fun r9 hr9 => ?_)
    subst hr9
    refine lv_if_eq (tgt := 21) hx hb d_D_fits_14 (by decide) (fun c9 => ?_) (fun c9 => ?_)
    · replace hm := if_t c9 hm
      refine lv_iconst (v := 0) hx hb d_D_fits_21 (by decide) ?_
      refine lv_iconst (v := 1) hx hb d_D_fits_22 (by decide) ?_
      refine lv_iconst (v := 1) hx hb d_D_fits_23 (by decide) ?_
      refine lv_iconst (v := 1) hx hb d_D_fits_24 (by decide) ?_
      obtain ⟨⟨r8, u9⟩, hc, hm⟩ := bd hm
      try dsimp only at hm
      have hPc := hP.sub (ws' := [(dq, .inr (5, [.int d_thrown, .int d_today, .int d_cut, .int d_aging, .int d_saleFrom, .int d_pieces, .int d_orders, .ref dq8, .ref dq9, .ref dq10, .ref dq11, .ref dq12, .ref dq13, .ref dq14, .ref dq15, .int d_ran, .int d_sum, .ref dq18, .ref dq19, .ref dq20])), (dq8, .inl (cI, 40, .inl d_piece)), (dq9, .inl (cI, 40, .inl d_order)), (dq10, .inl (cI, 10, .inl d_came)), (dq11, .inl (cI, 100, .inl d_worth)), (dq12, .inl (cZ, 10, .inl d_used)), (dq13, .inl (cI, 10, .inl d_usedBy)), (dq14, .inl (cI, 10, .inl d_reservedFor)), (dq15, .inl (cI, 10, .inl d_reservedTo)), (dq18, .inl (cI, 10, .inl d_pieceDual)), (dq19, .inl (cI, 10, .inl d_orderDual)), (dq20, .inl (cJ, 11264, .inr (.inl d_table)))]) [0, 1, 2, 3, 4, 5, 6, 7, 8, 9, 10, 11] rfl
      have hDc := hD.sub (ws' := [(dq, .inr (5, [.int d_thrown, .int d_today, .int d_cut, .int d_aging, .int d_saleFrom, .int d_pieces, .int d_orders, .ref dq8, .ref dq9, .ref dq10, .ref dq11, .ref dq12, .ref dq13, .ref dq14, .ref dq15, .int d_ran, .int d_sum, .ref dq18, .ref dq19, .ref dq20])), (dq8, .inl (cI, 40, .inl d_piece)), (dq9, .inl (cI, 40, .inl d_order)), (dq10, .inl (cI, 10, .inl d_came)), (dq11, .inl (cI, 100, .inl d_worth)), (dq12, .inl (cZ, 10, .inl d_used)), (dq13, .inl (cI, 10, .inl d_usedBy)), (dq14, .inl (cI, 10, .inl d_reservedFor)), (dq15, .inl (cI, 10, .inl d_reservedTo)), (dq18, .inl (cI, 10, .inl d_pieceDual)), (dq19, .inl (cI, 10, .inl d_orderDual)), (dq20, .inl (cJ, 11264, .inr (.inl d_table)))]) [0, 1, 2, 3, 4, 5, 6, 7, 8, 9, 10, 11] (by decide) rfl
      have hFc := va_free (wc := [(dq, .inr (5, [.int d_thrown, .int d_today, .int d_cut, .int d_aging, .int d_saleFrom, .int d_pieces, .int d_orders, .ref dq8, .ref dq9, .ref dq10, .ref dq11, .ref dq12, .ref dq13, .ref dq14, .ref dq15, .int d_ran, .int d_sum, .ref dq18, .ref dq19, .ref dq20])), (dq8, .inl (cI, 40, .inl d_piece)), (dq9, .inl (cI, 40, .inl d_order)), (dq10, .inl (cI, 10, .inl d_came)), (dq11, .inl (cI, 100, .inl d_worth)), (dq12, .inl (cZ, 10, .inl d_used)), (dq13, .inl (cI, 10, .inl d_usedBy)), (dq14, .inl (cI, 10, .inl d_reservedFor)), (dq15, .inl (cI, 10, .inl d_reservedTo)), (dq18, .inl (cI, 10, .inl d_pieceDual)), (dq19, .inl (cI, 10, .inl d_orderDual)), (dq20, .inl (cJ, 11264, .inr (.inl d_table)))]) hD hS hA [0, 1, 2, 3, 4, 5, 6, 7, 8, 9, 10, 11] rfl
      refine va_calli (va_runV (As := [.int 0, .int 1, .int 1, .int 1]) (rest := []) ⟨hx, hb, hml, hown, hts⟩ (c_D_goes l dC dI cI cZ cJ dq dq8 dq9 dq10 dq11 dq12 dq13 dq14 dq15 dq18 dq19 dq20 s.heap.size d_thrown d_today d_cut d_aging d_saleFrom d_pieces d_orders d_piece d_order d_came d_worth d_used d_usedBy d_reservedFor d_reservedTo d_ran d_sum d_pieceDual d_orderDual d_table 0 1 1 1 N (r8, u9) hc) (cwV 4 hts (gV (w0 670 rfl) (w0 671 rfl) (w0 18 rfl) (w0 33 rfl) (w0 672 rfl)) rfl rfl rfl q_D_goes ⟨Nat.le_of_ble_eq_true rfl, Nat.le_of_ble_eq_true rfl⟩) (wr_preV hK hPc hDc hN 5 0 (R_D, F_D, 20) rfl rfl) rfl rfl hl.1 rfl (lv_room (Nat.le_of_ble_eq_true rfl)) d_D_fits_25 ⟨Nat.le_of_ble_eq_true rfl, Nat.le_of_ble_eq_true rfl⟩) hS (fun q _ h => hFc q h) hFc (fun r9 u t H1 locs ht hvm hw hB hz1 hk1 hS => ?_)
      subst hw
      obtain ⟨hP1, hK1, hD1⟩ := hB
      rw [ht] at hP1
      obtain ⟨hP, hD⟩ := va_join (wr := []) (w1 := [(dq, .inr (5, [.int u9, .int d_today, .int d_cut, .int d_aging, .int d_saleFrom, .int d_pieces, .int d_orders, .ref dq8, .ref dq9, .ref dq10, .ref dq11, .ref dq12, .ref dq13, .ref dq14, .ref dq15, .int d_ran, .int d_sum, .ref dq18, .ref dq19, .ref dq20])), (dq8, .inl (cI, 40, .inl d_piece)), (dq9, .inl (cI, 40, .inl d_order)), (dq10, .inl (cI, 10, .inl d_came)), (dq11, .inl (cI, 100, .inl d_worth)), (dq12, .inl (cZ, 10, .inl d_used)), (dq13, .inl (cI, 10, .inl d_usedBy)), (dq14, .inl (cI, 10, .inl d_reservedFor)), (dq15, .inl (cI, 10, .inl d_reservedTo)), (dq18, .inl (cI, 10, .inl d_pieceDual)), (dq19, .inl (cI, 10, .inl d_orderDual)), (dq20, .inl (cJ, 11264, .inr (.inl d_table)))]) hP hD [0, 1, 2, 3, 4, 5, 6, 7, 8, 9, 10, 11] [] rfl rfl (by decide) (by decide) hk1 hFc hP1 hD1
      generalize H1 = H at hP hS ⊢
      have hP : va_P (dC, dI) classes [(dq, .inr (5, [.int u9, .int d_today, .int d_cut, .int d_aging, .int d_saleFrom, .int d_pieces, .int d_orders, .ref dq8, .ref dq9, .ref dq10, .ref dq11, .ref dq12, .ref dq13, .ref dq14, .ref dq15, .int d_ran, .int d_sum, .ref dq18, .ref dq19, .ref dq20])), (dq8, .inl (cI, 40, .inl d_piece)), (dq9, .inl (cI, 40, .inl d_order)), (dq10, .inl (cI, 10, .inl d_came)), (dq11, .inl (cI, 100, .inl d_worth)), (dq12, .inl (cZ, 10, .inl d_used)), (dq13, .inl (cI, 10, .inl d_usedBy)), (dq14, .inl (cI, 10, .inl d_reservedFor)), (dq15, .inl (cI, 10, .inl d_reservedTo)), (dq18, .inl (cI, 10, .inl d_pieceDual)), (dq19, .inl (cI, 10, .inl d_orderDual)), (dq20, .inl (cJ, 11264, .inr (.inl d_table)))] H := hP
      have hD : va_D A [(dq, .inr (5, [.int u9, .int d_today, .int d_cut, .int d_aging, .int d_saleFrom, .int d_pieces, .int d_orders, .ref dq8, .ref dq9, .ref dq10, .ref dq11, .ref dq12, .ref dq13, .ref dq14, .ref dq15, .int d_ran, .int d_sum, .ref dq18, .ref dq19, .ref dq20])), (dq8, .inl (cI, 40, .inl d_piece)), (dq9, .inl (cI, 40, .inl d_order)), (dq10, .inl (cI, 10, .inl d_came)), (dq11, .inl (cI, 100, .inl d_worth)), (dq12, .inl (cZ, 10, .inl d_used)), (dq13, .inl (cI, 10, .inl d_usedBy)), (dq14, .inl (cI, 10, .inl d_reservedFor)), (dq15, .inl (cI, 10, .inl d_reservedTo)), (dq18, .inl (cI, 10, .inl d_pieceDual)), (dq19, .inl (cI, 10, .inl d_orderDual)), (dq20, .inl (cJ, 11264, .inr (.inl d_table)))] := hD
      clear hP1 hD1 hPc hDc hFc hk1 hz1
      refine lv_if_eq (tgt := 44) hx hb d_D_fits_28 (by decide) (fun c9 => ?_) (fun c9 => ?_)
      · replace hm := if_t c9 hm
        refine lv_iconst (v := 0) hx hb d_D_fits_44 (by decide) ?_
        cases hm
        refine W.widen (k := 0) (n := 0) (Nat.le_of_ble_eq_true rfl) (Nat.le_of_ble_eq_true rfl) ?_
        exact W.zret hx hb hr (by decide) (fun t ht hW => ⟨⟨_, (), rfl, rfl, by rw [ht]; exact hP, va_K.moved hW.alike hK, hD⟩, hS.F ht⟩) hS.2.2 d_D_fits_45
      · replace hm := if_f c9 hm
        refine lv_aload_n hx hb d_D_fits_31 rfl (lv_at hl 0 rfl) ?_
        refine lv_iload_n hx hb d_D_fits_32 rfl (lv_at hl 1 rfl) ?_
        refine lv_iload_n hx hb d_D_fits_33 rfl (lv_at hl 2 rfl) ?_
        obtain ⟨r10, hc, hm⟩ := bd hm
        try dsimp only at hm
        refine vp_callSi (W.runV (As := [.int x1, .int x2]) (rest := []) ⟨hx, hb, hml, hown, hts⟩ (c_D_isFit l dC dI cI cZ cJ dq dq8 dq9 dq10 dq11 dq12 dq13 dq14 dq15 dq18 dq19 dq20 u9 d_today d_cut d_aging d_saleFrom d_pieces d_orders d_piece d_order d_came d_worth d_used d_usedBy d_reservedFor d_reservedTo d_ran d_sum d_pieceDual d_orderDual d_table x1 x2 N r10 hc) (cwV 2 hts (gV (w0 688 rfl) (w0 689 rfl) (w0 21 rfl) (w0 33 rfl) (w0 690 rfl)) rfl rfl rfl q_D_isFit ⟨Nat.le_of_ble_eq_true rfl, Nat.le_of_ble_eq_true rfl⟩) (ro_preV [0, 1, 2, 3, 4, 5, 6, 7, 8, 9, 10, 11] rfl hK hP hN 5 0 (R_D, F_D, 20) rfl rfl) rfl rfl hl.1 rfl (lv_room (Nat.le_of_ble_eq_true rfl)) d_D_fits_34 ⟨Nat.le_of_ble_eq_true rfl, Nat.le_of_ble_eq_true rfl⟩) (fun r9 hr9 => ?_)
        subst hr9
        refine lv_if_eq (tgt := 44) hx hb d_D_fits_37 (by decide) (fun c9 => ?_) (fun c9 => ?_)
        · replace hm := if_t c9 hm
          refine lv_iconst (v := 0) hx hb d_D_fits_44 (by decide) ?_
          cases hm
          refine W.widen (k := 0) (n := 0) (Nat.le_of_ble_eq_true rfl) (Nat.le_of_ble_eq_true rfl) ?_
          exact W.zret hx hb hr (by decide) (fun t ht hW => ⟨⟨_, (), rfl, rfl, by rw [ht]; exact hP, va_K.moved hW.alike hK, hD⟩, hS.F ht⟩) hS.2.2 d_D_fits_45
        · replace hm := if_f c9 hm
          refine lv_iconst (v := 1) hx hb d_D_fits_40 (by decide) ?_
          refine lv_goto (tgt := 45) hx hb d_D_fits_41 (by decide) ?_
          cases hm
          refine W.widen (k := 0) (n := 0) (Nat.le_of_ble_eq_true rfl) (Nat.le_of_ble_eq_true rfl) ?_
          exact W.zret hx hb hr (by decide) (fun t ht hW => ⟨⟨_, (), rfl, rfl, by rw [ht]; exact hP, va_K.moved hW.alike hK, hD⟩, hS.F ht⟩) hS.2.2 d_D_fits_45
    · replace hm := if_f c9 hm
      refine lv_iconst (v := 1) hx hb d_D_fits_17 (by decide) ?_
      refine lv_goto (tgt := 22) hx hb d_D_fits_18 (by decide) ?_
      refine lv_iconst (v := 1) hx hb d_D_fits_22 (by decide) ?_
      refine lv_iconst (v := 1) hx hb d_D_fits_23 (by decide) ?_
      refine lv_iconst (v := 1) hx hb d_D_fits_24 (by decide) ?_
      obtain ⟨⟨r13, u14⟩, hc, hm⟩ := bd hm
      try dsimp only at hm
      have hPc := hP.sub (ws' := [(dq, .inr (5, [.int d_thrown, .int d_today, .int d_cut, .int d_aging, .int d_saleFrom, .int d_pieces, .int d_orders, .ref dq8, .ref dq9, .ref dq10, .ref dq11, .ref dq12, .ref dq13, .ref dq14, .ref dq15, .int d_ran, .int d_sum, .ref dq18, .ref dq19, .ref dq20])), (dq8, .inl (cI, 40, .inl d_piece)), (dq9, .inl (cI, 40, .inl d_order)), (dq10, .inl (cI, 10, .inl d_came)), (dq11, .inl (cI, 100, .inl d_worth)), (dq12, .inl (cZ, 10, .inl d_used)), (dq13, .inl (cI, 10, .inl d_usedBy)), (dq14, .inl (cI, 10, .inl d_reservedFor)), (dq15, .inl (cI, 10, .inl d_reservedTo)), (dq18, .inl (cI, 10, .inl d_pieceDual)), (dq19, .inl (cI, 10, .inl d_orderDual)), (dq20, .inl (cJ, 11264, .inr (.inl d_table)))]) [0, 1, 2, 3, 4, 5, 6, 7, 8, 9, 10, 11] rfl
      have hDc := hD.sub (ws' := [(dq, .inr (5, [.int d_thrown, .int d_today, .int d_cut, .int d_aging, .int d_saleFrom, .int d_pieces, .int d_orders, .ref dq8, .ref dq9, .ref dq10, .ref dq11, .ref dq12, .ref dq13, .ref dq14, .ref dq15, .int d_ran, .int d_sum, .ref dq18, .ref dq19, .ref dq20])), (dq8, .inl (cI, 40, .inl d_piece)), (dq9, .inl (cI, 40, .inl d_order)), (dq10, .inl (cI, 10, .inl d_came)), (dq11, .inl (cI, 100, .inl d_worth)), (dq12, .inl (cZ, 10, .inl d_used)), (dq13, .inl (cI, 10, .inl d_usedBy)), (dq14, .inl (cI, 10, .inl d_reservedFor)), (dq15, .inl (cI, 10, .inl d_reservedTo)), (dq18, .inl (cI, 10, .inl d_pieceDual)), (dq19, .inl (cI, 10, .inl d_orderDual)), (dq20, .inl (cJ, 11264, .inr (.inl d_table)))]) [0, 1, 2, 3, 4, 5, 6, 7, 8, 9, 10, 11] (by decide) rfl
      have hFc := va_free (wc := [(dq, .inr (5, [.int d_thrown, .int d_today, .int d_cut, .int d_aging, .int d_saleFrom, .int d_pieces, .int d_orders, .ref dq8, .ref dq9, .ref dq10, .ref dq11, .ref dq12, .ref dq13, .ref dq14, .ref dq15, .int d_ran, .int d_sum, .ref dq18, .ref dq19, .ref dq20])), (dq8, .inl (cI, 40, .inl d_piece)), (dq9, .inl (cI, 40, .inl d_order)), (dq10, .inl (cI, 10, .inl d_came)), (dq11, .inl (cI, 100, .inl d_worth)), (dq12, .inl (cZ, 10, .inl d_used)), (dq13, .inl (cI, 10, .inl d_usedBy)), (dq14, .inl (cI, 10, .inl d_reservedFor)), (dq15, .inl (cI, 10, .inl d_reservedTo)), (dq18, .inl (cI, 10, .inl d_pieceDual)), (dq19, .inl (cI, 10, .inl d_orderDual)), (dq20, .inl (cJ, 11264, .inr (.inl d_table)))]) hD hS hA [0, 1, 2, 3, 4, 5, 6, 7, 8, 9, 10, 11] rfl
      refine va_calli (va_runV (As := [.int 1, .int 1, .int 1, .int 1]) (rest := []) ⟨hx, hb, hml, hown, hts⟩ (c_D_goes l dC dI cI cZ cJ dq dq8 dq9 dq10 dq11 dq12 dq13 dq14 dq15 dq18 dq19 dq20 s.heap.size d_thrown d_today d_cut d_aging d_saleFrom d_pieces d_orders d_piece d_order d_came d_worth d_used d_usedBy d_reservedFor d_reservedTo d_ran d_sum d_pieceDual d_orderDual d_table 1 1 1 1 N (r13, u14) hc) (cwV 4 hts (gV (w0 670 rfl) (w0 671 rfl) (w0 18 rfl) (w0 33 rfl) (w0 672 rfl)) rfl rfl rfl q_D_goes ⟨Nat.le_of_ble_eq_true rfl, Nat.le_of_ble_eq_true rfl⟩) (wr_preV hK hPc hDc hN 5 0 (R_D, F_D, 20) rfl rfl) rfl rfl hl.1 rfl (lv_room (Nat.le_of_ble_eq_true rfl)) d_D_fits_25 ⟨Nat.le_of_ble_eq_true rfl, Nat.le_of_ble_eq_true rfl⟩) hS (fun q _ h => hFc q h) hFc (fun r9 u t H1 locs ht hvm hw hB hz1 hk1 hS => ?_)
      subst hw
      obtain ⟨hP1, hK1, hD1⟩ := hB
      rw [ht] at hP1
      obtain ⟨hP, hD⟩ := va_join (wr := []) (w1 := [(dq, .inr (5, [.int u14, .int d_today, .int d_cut, .int d_aging, .int d_saleFrom, .int d_pieces, .int d_orders, .ref dq8, .ref dq9, .ref dq10, .ref dq11, .ref dq12, .ref dq13, .ref dq14, .ref dq15, .int d_ran, .int d_sum, .ref dq18, .ref dq19, .ref dq20])), (dq8, .inl (cI, 40, .inl d_piece)), (dq9, .inl (cI, 40, .inl d_order)), (dq10, .inl (cI, 10, .inl d_came)), (dq11, .inl (cI, 100, .inl d_worth)), (dq12, .inl (cZ, 10, .inl d_used)), (dq13, .inl (cI, 10, .inl d_usedBy)), (dq14, .inl (cI, 10, .inl d_reservedFor)), (dq15, .inl (cI, 10, .inl d_reservedTo)), (dq18, .inl (cI, 10, .inl d_pieceDual)), (dq19, .inl (cI, 10, .inl d_orderDual)), (dq20, .inl (cJ, 11264, .inr (.inl d_table)))]) hP hD [0, 1, 2, 3, 4, 5, 6, 7, 8, 9, 10, 11] [] rfl rfl (by decide) (by decide) hk1 hFc hP1 hD1
      generalize H1 = H at hP hS ⊢
      have hP : va_P (dC, dI) classes [(dq, .inr (5, [.int u14, .int d_today, .int d_cut, .int d_aging, .int d_saleFrom, .int d_pieces, .int d_orders, .ref dq8, .ref dq9, .ref dq10, .ref dq11, .ref dq12, .ref dq13, .ref dq14, .ref dq15, .int d_ran, .int d_sum, .ref dq18, .ref dq19, .ref dq20])), (dq8, .inl (cI, 40, .inl d_piece)), (dq9, .inl (cI, 40, .inl d_order)), (dq10, .inl (cI, 10, .inl d_came)), (dq11, .inl (cI, 100, .inl d_worth)), (dq12, .inl (cZ, 10, .inl d_used)), (dq13, .inl (cI, 10, .inl d_usedBy)), (dq14, .inl (cI, 10, .inl d_reservedFor)), (dq15, .inl (cI, 10, .inl d_reservedTo)), (dq18, .inl (cI, 10, .inl d_pieceDual)), (dq19, .inl (cI, 10, .inl d_orderDual)), (dq20, .inl (cJ, 11264, .inr (.inl d_table)))] H := hP
      have hD : va_D A [(dq, .inr (5, [.int u14, .int d_today, .int d_cut, .int d_aging, .int d_saleFrom, .int d_pieces, .int d_orders, .ref dq8, .ref dq9, .ref dq10, .ref dq11, .ref dq12, .ref dq13, .ref dq14, .ref dq15, .int d_ran, .int d_sum, .ref dq18, .ref dq19, .ref dq20])), (dq8, .inl (cI, 40, .inl d_piece)), (dq9, .inl (cI, 40, .inl d_order)), (dq10, .inl (cI, 10, .inl d_came)), (dq11, .inl (cI, 100, .inl d_worth)), (dq12, .inl (cZ, 10, .inl d_used)), (dq13, .inl (cI, 10, .inl d_usedBy)), (dq14, .inl (cI, 10, .inl d_reservedFor)), (dq15, .inl (cI, 10, .inl d_reservedTo)), (dq18, .inl (cI, 10, .inl d_pieceDual)), (dq19, .inl (cI, 10, .inl d_orderDual)), (dq20, .inl (cJ, 11264, .inr (.inl d_table)))] := hD
      clear hP1 hD1 hPc hDc hFc hk1 hz1
      refine lv_if_eq (tgt := 44) hx hb d_D_fits_28 (by decide) (fun c9 => ?_) (fun c9 => ?_)
      · replace hm := if_t c9 hm
        refine lv_iconst (v := 0) hx hb d_D_fits_44 (by decide) ?_
        cases hm
        refine W.widen (k := 0) (n := 0) (Nat.le_of_ble_eq_true rfl) (Nat.le_of_ble_eq_true rfl) ?_
        exact W.zret hx hb hr (by decide) (fun t ht hW => ⟨⟨_, (), rfl, rfl, by rw [ht]; exact hP, va_K.moved hW.alike hK, hD⟩, hS.F ht⟩) hS.2.2 d_D_fits_45
      · replace hm := if_f c9 hm
        refine lv_aload_n hx hb d_D_fits_31 rfl (lv_at hl 0 rfl) ?_
        refine lv_iload_n hx hb d_D_fits_32 rfl (lv_at hl 1 rfl) ?_
        refine lv_iload_n hx hb d_D_fits_33 rfl (lv_at hl 2 rfl) ?_
        obtain ⟨r15, hc, hm⟩ := bd hm
        try dsimp only at hm
        refine vp_callSi (W.runV (As := [.int x1, .int x2]) (rest := []) ⟨hx, hb, hml, hown, hts⟩ (c_D_isFit l dC dI cI cZ cJ dq dq8 dq9 dq10 dq11 dq12 dq13 dq14 dq15 dq18 dq19 dq20 u14 d_today d_cut d_aging d_saleFrom d_pieces d_orders d_piece d_order d_came d_worth d_used d_usedBy d_reservedFor d_reservedTo d_ran d_sum d_pieceDual d_orderDual d_table x1 x2 N r15 hc) (cwV 2 hts (gV (w0 688 rfl) (w0 689 rfl) (w0 21 rfl) (w0 33 rfl) (w0 690 rfl)) rfl rfl rfl q_D_isFit ⟨Nat.le_of_ble_eq_true rfl, Nat.le_of_ble_eq_true rfl⟩) (ro_preV [0, 1, 2, 3, 4, 5, 6, 7, 8, 9, 10, 11] rfl hK hP hN 5 0 (R_D, F_D, 20) rfl rfl) rfl rfl hl.1 rfl (lv_room (Nat.le_of_ble_eq_true rfl)) d_D_fits_34 ⟨Nat.le_of_ble_eq_true rfl, Nat.le_of_ble_eq_true rfl⟩) (fun r9 hr9 => ?_)
        subst hr9
        refine lv_if_eq (tgt := 44) hx hb d_D_fits_37 (by decide) (fun c9 => ?_) (fun c9 => ?_)
        · replace hm := if_t c9 hm
          refine lv_iconst (v := 0) hx hb d_D_fits_44 (by decide) ?_
          cases hm
          refine W.widen (k := 0) (n := 0) (Nat.le_of_ble_eq_true rfl) (Nat.le_of_ble_eq_true rfl) ?_
          exact W.zret hx hb hr (by decide) (fun t ht hW => ⟨⟨_, (), rfl, rfl, by rw [ht]; exact hP, va_K.moved hW.alike hK, hD⟩, hS.F ht⟩) hS.2.2 d_D_fits_45
        · replace hm := if_f c9 hm
          refine lv_iconst (v := 1) hx hb d_D_fits_40 (by decide) ?_
          refine lv_goto (tgt := 45) hx hb d_D_fits_41 (by decide) ?_
          cases hm
          refine W.widen (k := 0) (n := 0) (Nat.le_of_ble_eq_true rfl) (Nat.le_of_ble_eq_true rfl) ?_
          exact W.zret hx hb hr (by decide) (fun t ht hW => ⟨⟨_, (), rfl, rfl, by rw [ht]; exact hP, va_K.moved hW.alike hK, hD⟩, hS.F ht⟩) hS.2.2 d_D_fits_45

def w_D_net : List Cond := .code y_D_net b_D_net 4 (some .int) :: W0
theorem q_D_net : y_D_net.cls = R_D ∧ y_D_net.cls ≠ "java/lang/invoke/MethodHandle" ∧ y_D_net.cls ≠ "java/lang/invoke/VarHandle" ∧ (parseMethodDescriptor y_D_net.desc).map (fun d => d.parameters.length) = some 2 := by decide +kernel
def m_D_net (d_today : Int32) (d_cut : Int32) (d_aging : Int32) (d_pieces : Int32) (d_orders : Int32) (d_piece : Nat → Int32) (d_order : Nat → Int32) (d_came : Nat → Int32) (d_worth : Nat → Int32) (x1 : Int32) (x2 : Int32) : Option (Int32 × Int32) :=
  ((m_D_isPiece d_pieces x1).bind fun r1 =>
  (if r1 = 0 then
    ((m_D_goes 0 0 1 1).bind fun (r2, u3) =>
      (if r2 = 0 then
        some (0, u3)
       else
        ((m_D_netOf d_today d_cut d_aging d_piece d_order d_came d_worth x1 x2).bind fun r4 =>
          some (r4, u3))))
   else
    ((m_D_isOrder d_orders x2).bind fun r7 =>
      (if r7 = 0 then
        ((m_D_goes 0 0 1 1).bind fun (r8, u9) =>
          (if r8 = 0 then
            some (0, u9)
           else
            ((m_D_netOf d_today d_cut d_aging d_piece d_order d_came d_worth x1 x2).bind fun r10 =>
              some (r10, u9))))
       else
        ((m_D_isFit d_piece d_order x1 x2).bind fun r13 =>
          (if r13 = 0 then
            ((m_D_goes 1 0 1 1).bind fun (r14, u15) =>
              (if r14 = 0 then
                some (0, u15)
               else
                ((m_D_netOf d_today d_cut d_aging d_piece d_order d_came d_worth x1 x2).bind fun r16 =>
                  some (r16, u15))))
           else
            ((m_D_goes 1 1 1 1).bind fun (r19, u20) =>
              (if r19 = 0 then
                some (0, u20)
               else
                ((m_D_netOf d_today d_cut d_aging d_piece d_order d_came d_worth x1 x2).bind fun r21 =>
                  some (r21, u20))))))))))
set_option maxHeartbeats 4000000 in
set_option maxRecDepth 100000 in
theorem c_D_net (l : Launch) (dC : Nat → ClassId) (dI : Nat → Nat → Nat) (cI cZ cJ : ClassId) (dq dq8 dq9 dq10 dq11 dq12 dq13 dq14 dq15 dq18 dq19 dq20 : Nat) (sz : Nat) (d_thrown : Int32) (d_today : Int32) (d_cut : Int32) (d_aging : Int32) (d_saleFrom : Int32) (d_pieces : Int32) (d_orders : Int32) (d_piece : Nat → Int32) (d_order : Nat → Int32) (d_came : Nat → Int32) (d_worth : Nat → Int32) (d_used : Nat → Int32) (d_usedBy : Nat → Int32) (d_reservedFor : Nat → Int32) (d_reservedTo : Nat → Int32) (d_ran : Int32) (d_sum : Int32) (d_pieceDual : Nat → Int32) (d_orderDual : Nat → Int32) (d_table : Nat → Int64) (x1 : Int32) (x2 : Int32) (N : Nat) (res : Int32 × Int32) (hm : m_D_net d_today d_cut d_aging d_pieces d_orders d_piece d_order d_came d_worth x1 x2 = some res) : Met l y_D_net w_D_net ({ frames := 2, cells := 0, slots := 0, locals := 43 } : Room) (va_Pc [.ref dq, .int x1, .int x2] (fun U => U.heap.size = sz ∧ va_P (dC, dI) classes [(dq, .inr (5, [.int d_thrown, .int d_today, .int d_cut, .int d_aging, .int d_saleFrom, .int d_pieces, .int d_orders, .ref dq8, .ref dq9, .ref dq10, .ref dq11, .ref dq12, .ref dq13, .ref dq14, .ref dq15, .int d_ran, .int d_sum, .ref dq18, .ref dq19, .ref dq20])), (dq8, .inl (cI, 40, .inl d_piece)), (dq9, .inl (cI, 40, .inl d_order)), (dq10, .inl (cI, 10, .inl d_came)), (dq11, .inl (cI, 100, .inl d_worth)), (dq12, .inl (cZ, 10, .inl d_used)), (dq13, .inl (cI, 10, .inl d_usedBy)), (dq14, .inl (cI, 10, .inl d_reservedFor)), (dq15, .inl (cI, 10, .inl d_reservedTo)), (dq18, .inl (cI, 10, .inl d_pieceDual)), (dq19, .inl (cI, 10, .inl d_orderDual)), (dq20, .inl (cJ, 11264, .inr (.inl d_table)))] U.heap ∧ va_K (dC, dI) classes [(cI, .int), (cZ, .boolean), (cJ, .long)] U ∧ va_D (fun _ => True) [(dq, .inr (5, [.int d_thrown, .int d_today, .int d_cut, .int d_aging, .int d_saleFrom, .int d_pieces, .int d_orders, .ref dq8, .ref dq9, .ref dq10, .ref dq11, .ref dq12, .ref dq13, .ref dq14, .ref dq15, .int d_ran, .int d_sum, .ref dq18, .ref dq19, .ref dq20])), (dq8, .inl (cI, 40, .inl d_piece)), (dq9, .inl (cI, 40, .inl d_order)), (dq10, .inl (cI, 10, .inl d_came)), (dq11, .inl (cI, 100, .inl d_worth)), (dq12, .inl (cZ, 10, .inl d_used)), (dq13, .inl (cI, 10, .inl d_usedBy)), (dq14, .inl (cI, 10, .inl d_reservedFor)), (dq15, .inl (cI, 10, .inl d_reservedTo)), (dq18, .inl (cI, 10, .inl d_pieceDual)), (dq19, .inl (cI, 10, .inl d_orderDual)), (dq20, .inl (cJ, 11264, .inr (.inl d_table)))] ∧ nw U)) (va_Qi (fun (x : Int32) (_ : Unit) => res.1 = x) (fun _ t => va_P (dC, dI) classes [(dq, .inr (5, [.int res.2, .int d_today, .int d_cut, .int d_aging, .int d_saleFrom, .int d_pieces, .int d_orders, .ref dq8, .ref dq9, .ref dq10, .ref dq11, .ref dq12, .ref dq13, .ref dq14, .ref dq15, .int d_ran, .int d_sum, .ref dq18, .ref dq19, .ref dq20])), (dq8, .inl (cI, 40, .inl d_piece)), (dq9, .inl (cI, 40, .inl d_order)), (dq10, .inl (cI, 10, .inl d_came)), (dq11, .inl (cI, 100, .inl d_worth)), (dq12, .inl (cZ, 10, .inl d_used)), (dq13, .inl (cI, 10, .inl d_usedBy)), (dq14, .inl (cI, 10, .inl d_reservedFor)), (dq15, .inl (cI, 10, .inl d_reservedTo)), (dq18, .inl (cI, 10, .inl d_pieceDual)), (dq19, .inl (cI, 10, .inl d_orderDual)), (dq20, .inl (cJ, 11264, .inr (.inl d_table)))] t.heap ∧ va_K (dC, dI) classes [(cI, .int), (cZ, .boolean), (cJ, .long)] t ∧ va_D (va_A [(dq, .inr (5, [.int d_thrown, .int d_today, .int d_cut, .int d_aging, .int d_saleFrom, .int d_pieces, .int d_orders, .ref dq8, .ref dq9, .ref dq10, .ref dq11, .ref dq12, .ref dq13, .ref dq14, .ref dq15, .int d_ran, .int d_sum, .ref dq18, .ref dq19, .ref dq20])), (dq8, .inl (cI, 40, .inl d_piece)), (dq9, .inl (cI, 40, .inl d_order)), (dq10, .inl (cI, 10, .inl d_came)), (dq11, .inl (cI, 100, .inl d_worth)), (dq12, .inl (cZ, 10, .inl d_used)), (dq13, .inl (cI, 10, .inl d_usedBy)), (dq14, .inl (cI, 10, .inl d_reservedFor)), (dq15, .inl (cI, 10, .inl d_reservedTo)), (dq18, .inl (cI, 10, .inl d_pieceDual)), (dq19, .inl (cI, 10, .inl d_orderDual)), (dq20, .inl (cJ, 11264, .inr (.inl d_table)))] sz) [(dq, .inr (5, [.int res.2, .int d_today, .int d_cut, .int d_aging, .int d_saleFrom, .int d_pieces, .int d_orders, .ref dq8, .ref dq9, .ref dq10, .ref dq11, .ref dq12, .ref dq13, .ref dq14, .ref dq15, .int d_ran, .int d_sum, .ref dq18, .ref dq19, .ref dq20])), (dq8, .inl (cI, 40, .inl d_piece)), (dq9, .inl (cI, 40, .inl d_order)), (dq10, .inl (cI, 10, .inl d_came)), (dq11, .inl (cI, 100, .inl d_worth)), (dq12, .inl (cZ, 10, .inl d_used)), (dq13, .inl (cI, 10, .inl d_usedBy)), (dq14, .inl (cI, 10, .inl d_reservedFor)), (dq15, .inl (cI, 10, .inl d_reservedTo)), (dq18, .inl (cI, 10, .inl d_pieceDual)), (dq19, .inl (cI, 10, .inl d_orderDual)), (dq20, .inl (cJ, 11264, .inr (.inl d_table)))]) (va_A [(dq, .inr (5, [.int d_thrown, .int d_today, .int d_cut, .int d_aging, .int d_saleFrom, .int d_pieces, .int d_orders, .ref dq8, .ref dq9, .ref dq10, .ref dq11, .ref dq12, .ref dq13, .ref dq14, .ref dq15, .int d_ran, .int d_sum, .ref dq18, .ref dq19, .ref dq20])), (dq8, .inl (cI, 40, .inl d_piece)), (dq9, .inl (cI, 40, .inl d_order)), (dq10, .inl (cI, 10, .inl d_came)), (dq11, .inl (cI, 100, .inl d_worth)), (dq12, .inl (cZ, 10, .inl d_used)), (dq13, .inl (cI, 10, .inl d_usedBy)), (dq14, .inl (cI, 10, .inl d_reservedFor)), (dq15, .inl (cI, 10, .inl d_reservedTo)), (dq18, .inl (cI, 10, .inl d_pieceDual)), (dq19, .inl (cI, 10, .inl d_orderDual)), (dq20, .inl (cJ, 11264, .inr (.inl d_table)))] sz)) 0 0 (va_A [(dq, .inr (5, [.int d_thrown, .int d_today, .int d_cut, .int d_aging, .int d_saleFrom, .int d_pieces, .int d_orders, .ref dq8, .ref dq9, .ref dq10, .ref dq11, .ref dq12, .ref dq13, .ref dq14, .ref dq15, .int d_ran, .int d_sum, .ref dq18, .ref dq19, .ref dq20])), (dq8, .inl (cI, 40, .inl d_piece)), (dq9, .inl (cI, 40, .inl d_order)), (dq10, .inl (cI, 10, .inl d_came)), (dq11, .inl (cI, 100, .inl d_worth)), (dq12, .inl (cZ, 10, .inl d_used)), (dq13, .inl (cI, 10, .inl d_usedBy)), (dq14, .inl (cI, 10, .inl d_reservedFor)), (dq15, .inl (cI, 10, .inl d_reservedTo)), (dq18, .inl (cI, 10, .inl d_pieceDual)), (dq19, .inl (cI, 10, .inl d_orderDual)), (dq20, .inl (cJ, 11264, .inr (.inl d_table)))] sz) := by
  unfold m_D_net at hm
  refine Met.ofW (cc := b_D_net) (maxL := 4) (ret := (some .int)) (by decide) rfl ?_
  intro p e s m args below meth c s₁ B hml hv
  obtain ⟨rfl, hsz, hP, hK, hD0, hN⟩ := hv
  have hx := B.exec
  have hb := B.bytes
  have hr := B.returns
  have hts := atoms_spec (ws := w_D_net) B.pre
  have hown : s.vm.findClass R_D = some m.cls := findClass_of_methodNamed B.named
  have hlocks := B.notSynchronized
  subst hsz
  have hD := hD0.self (sz := s.heap.size)
  generalize hAe : va_A [(dq, .inr (5, [.int d_thrown, .int d_today, .int d_cut, .int d_aging, .int d_saleFrom, .int d_pieces, .int d_orders, .ref dq8, .ref dq9, .ref dq10, .ref dq11, .ref dq12, .ref dq13, .ref dq14, .ref dq15, .int d_ran, .int d_sum, .ref dq18, .ref dq19, .ref dq20])), (dq8, .inl (cI, 40, .inl d_piece)), (dq9, .inl (cI, 40, .inl d_order)), (dq10, .inl (cI, 10, .inl d_came)), (dq11, .inl (cI, 100, .inl d_worth)), (dq12, .inl (cZ, 10, .inl d_used)), (dq13, .inl (cI, 10, .inl d_usedBy)), (dq14, .inl (cI, 10, .inl d_reservedFor)), (dq15, .inl (cI, 10, .inl d_reservedTo)), (dq18, .inl (cI, 10, .inl d_pieceDual)), (dq19, .inl (cI, 10, .inl d_orderDual)), (dq20, .inl (cJ, 11264, .inr (.inl d_table)))] s.heap.size = A at hD ⊢
  have hA : ∀ q : Nat, s.heap.size ≤ q → A q := fun q h => by rw [← hAe]; exact Or.inr h
  have hS : va_S A s.heap s.heap [] := va_S.rf
  have hl := lv_entry ([.ref dq, .int x1, .int x2]) (n := 4) (Nat.le_of_ble_eq_true rfl)
  rw [lg_entry_eq]
  generalize (lg_sl ([.ref dq, .int x1, .int x2]) ++ List.replicate (4 - (lg_sl ([.ref dq, .int x1, .int x2])).length) Slot.unset).toArray = ls at hl ⊢
  have hl : lv_has ls 4 [(0, .ref dq), (1, .int x1), (2, .int x2)] := hl
  refine lv_aload_n hx hb d_D_net_0 rfl (lv_at hl 0 rfl) ?_
  refine lv_iload_n hx hb d_D_net_1 rfl (lv_at hl 1 rfl) ?_
  obtain ⟨r1, hc, hm⟩ := bd hm
  try dsimp only at hm
  refine vp_callSi (W.runV (As := [.int x1]) (rest := []) ⟨hx, hb, hml, hown, hts⟩ (c_D_isPiece l dC dI cI cZ cJ dq dq8 dq9 dq10 dq11 dq12 dq13 dq14 dq15 dq18 dq19 dq20 d_thrown d_today d_cut d_aging d_saleFrom d_pieces d_orders d_piece d_order d_came d_worth d_used d_usedBy d_reservedFor d_reservedTo d_ran d_sum d_pieceDual d_orderDual d_table x1 N r1 hc) (cwV 1 hts (gV (w0 681 rfl) (w0 682 rfl) (w0 19 rfl) (w0 33 rfl) (w0 683 rfl)) rfl rfl rfl q_D_isPiece ⟨Nat.le_of_ble_eq_true rfl, Nat.le_of_ble_eq_true rfl⟩) (ro_preV [0, 1, 2, 3, 4, 5, 6, 7, 8, 9, 10, 11] rfl hK hP hN 5 0 (R_D, F_D, 20) rfl rfl) rfl rfl hl.1 rfl (lv_room (Nat.le_of_ble_eq_true rfl)) d_D_net_2 ⟨Nat.le_of_ble_eq_true rfl, Nat.le_of_ble_eq_true rfl⟩) (fun r9 hr9 => ?_)
  subst hr9
  refine lv_if_eq (tgt := 20) hx hb d_D_net_5 (by decide) (fun c9 => ?_) (fun c9 => ?_)
  · replace hm := if_t c9 hm
    refine lv_iconst (v := 0) hx hb d_D_net_20 (by decide) ?_
    refine lv_istore_n (lv' := [(3, .int 0), (0, .ref dq), (1, .int x1), (2, .int x2)]) hx hb d_D_net_21 rfl hl (by decide) rfl (fun ls hl => ?_)
    refine lv_aload_n hx hb d_D_net_22 rfl (lv_at hl 1 rfl) ?_
    refine lv_iload_n hx hb d_D_net_23 rfl (lv_at hl 0 rfl) ?_
    refine lv_iload_n hx hb d_D_net_24 rfl (lv_at hl 0 rfl) ?_
    refine lv_if_eq (tgt := 41) hx hb d_D_net_25 (by decide) (fun c9 => ?_) (fun c9 => absurd (by decide) c9)
    clear c9
    refine lv_iconst (v := 0) hx hb d_D_net_41 (by decide) ?_
    refine lv_iconst (v := 1) hx hb d_D_net_42 (by decide) ?_
    refine lv_iconst (v := 1) hx hb d_D_net_43 (by decide) ?_
    obtain ⟨⟨r2, u3⟩, hc, hm⟩ := bd hm
    try dsimp only at hm
    have hPc := hP.sub (ws' := [(dq, .inr (5, [.int d_thrown, .int d_today, .int d_cut, .int d_aging, .int d_saleFrom, .int d_pieces, .int d_orders, .ref dq8, .ref dq9, .ref dq10, .ref dq11, .ref dq12, .ref dq13, .ref dq14, .ref dq15, .int d_ran, .int d_sum, .ref dq18, .ref dq19, .ref dq20])), (dq8, .inl (cI, 40, .inl d_piece)), (dq9, .inl (cI, 40, .inl d_order)), (dq10, .inl (cI, 10, .inl d_came)), (dq11, .inl (cI, 100, .inl d_worth)), (dq12, .inl (cZ, 10, .inl d_used)), (dq13, .inl (cI, 10, .inl d_usedBy)), (dq14, .inl (cI, 10, .inl d_reservedFor)), (dq15, .inl (cI, 10, .inl d_reservedTo)), (dq18, .inl (cI, 10, .inl d_pieceDual)), (dq19, .inl (cI, 10, .inl d_orderDual)), (dq20, .inl (cJ, 11264, .inr (.inl d_table)))]) [0, 1, 2, 3, 4, 5, 6, 7, 8, 9, 10, 11] rfl
    have hDc := hD.sub (ws' := [(dq, .inr (5, [.int d_thrown, .int d_today, .int d_cut, .int d_aging, .int d_saleFrom, .int d_pieces, .int d_orders, .ref dq8, .ref dq9, .ref dq10, .ref dq11, .ref dq12, .ref dq13, .ref dq14, .ref dq15, .int d_ran, .int d_sum, .ref dq18, .ref dq19, .ref dq20])), (dq8, .inl (cI, 40, .inl d_piece)), (dq9, .inl (cI, 40, .inl d_order)), (dq10, .inl (cI, 10, .inl d_came)), (dq11, .inl (cI, 100, .inl d_worth)), (dq12, .inl (cZ, 10, .inl d_used)), (dq13, .inl (cI, 10, .inl d_usedBy)), (dq14, .inl (cI, 10, .inl d_reservedFor)), (dq15, .inl (cI, 10, .inl d_reservedTo)), (dq18, .inl (cI, 10, .inl d_pieceDual)), (dq19, .inl (cI, 10, .inl d_orderDual)), (dq20, .inl (cJ, 11264, .inr (.inl d_table)))]) [0, 1, 2, 3, 4, 5, 6, 7, 8, 9, 10, 11] (by decide) rfl
    have hFc := va_free (wc := [(dq, .inr (5, [.int d_thrown, .int d_today, .int d_cut, .int d_aging, .int d_saleFrom, .int d_pieces, .int d_orders, .ref dq8, .ref dq9, .ref dq10, .ref dq11, .ref dq12, .ref dq13, .ref dq14, .ref dq15, .int d_ran, .int d_sum, .ref dq18, .ref dq19, .ref dq20])), (dq8, .inl (cI, 40, .inl d_piece)), (dq9, .inl (cI, 40, .inl d_order)), (dq10, .inl (cI, 10, .inl d_came)), (dq11, .inl (cI, 100, .inl d_worth)), (dq12, .inl (cZ, 10, .inl d_used)), (dq13, .inl (cI, 10, .inl d_usedBy)), (dq14, .inl (cI, 10, .inl d_reservedFor)), (dq15, .inl (cI, 10, .inl d_reservedTo)), (dq18, .inl (cI, 10, .inl d_pieceDual)), (dq19, .inl (cI, 10, .inl d_orderDual)), (dq20, .inl (cJ, 11264, .inr (.inl d_table)))]) hD hS hA [0, 1, 2, 3, 4, 5, 6, 7, 8, 9, 10, 11] rfl
    refine va_calli (va_runV (As := [.int 0, .int 0, .int 1, .int 1]) (rest := []) ⟨hx, hb, hml, hown, hts⟩ (c_D_goes l dC dI cI cZ cJ dq dq8 dq9 dq10 dq11 dq12 dq13 dq14 dq15 dq18 dq19 dq20 s.heap.size d_thrown d_today d_cut d_aging d_saleFrom d_pieces d_orders d_piece d_order d_came d_worth d_used d_usedBy d_reservedFor d_reservedTo d_ran d_sum d_pieceDual d_orderDual d_table 0 0 1 1 N (r2, u3) hc) (cwV 4 hts (gV (w0 670 rfl) (w0 671 rfl) (w0 18 rfl) (w0 33 rfl) (w0 672 rfl)) rfl rfl rfl q_D_goes ⟨Nat.le_of_ble_eq_true rfl, Nat.le_of_ble_eq_true rfl⟩) (wr_preV hK hPc hDc hN 5 0 (R_D, F_D, 20) rfl rfl) rfl rfl hl.1 rfl (lv_room (Nat.le_of_ble_eq_true rfl)) d_D_net_44 ⟨Nat.le_of_ble_eq_true rfl, Nat.le_of_ble_eq_true rfl⟩) hS (fun q _ h => hFc q h) hFc (fun r9 u t H1 locs ht hvm hw hB hz1 hk1 hS => ?_)
    subst hw
    obtain ⟨hP1, hK1, hD1⟩ := hB
    rw [ht] at hP1
    obtain ⟨hP, hD⟩ := va_join (wr := []) (w1 := [(dq, .inr (5, [.int u3, .int d_today, .int d_cut, .int d_aging, .int d_saleFrom, .int d_pieces, .int d_orders, .ref dq8, .ref dq9, .ref dq10, .ref dq11, .ref dq12, .ref dq13, .ref dq14, .ref dq15, .int d_ran, .int d_sum, .ref dq18, .ref dq19, .ref dq20])), (dq8, .inl (cI, 40, .inl d_piece)), (dq9, .inl (cI, 40, .inl d_order)), (dq10, .inl (cI, 10, .inl d_came)), (dq11, .inl (cI, 100, .inl d_worth)), (dq12, .inl (cZ, 10, .inl d_used)), (dq13, .inl (cI, 10, .inl d_usedBy)), (dq14, .inl (cI, 10, .inl d_reservedFor)), (dq15, .inl (cI, 10, .inl d_reservedTo)), (dq18, .inl (cI, 10, .inl d_pieceDual)), (dq19, .inl (cI, 10, .inl d_orderDual)), (dq20, .inl (cJ, 11264, .inr (.inl d_table)))]) hP hD [0, 1, 2, 3, 4, 5, 6, 7, 8, 9, 10, 11] [] rfl rfl (by decide) (by decide) hk1 hFc hP1 hD1
    generalize H1 = H at hP hS ⊢
    have hP : va_P (dC, dI) classes [(dq, .inr (5, [.int u3, .int d_today, .int d_cut, .int d_aging, .int d_saleFrom, .int d_pieces, .int d_orders, .ref dq8, .ref dq9, .ref dq10, .ref dq11, .ref dq12, .ref dq13, .ref dq14, .ref dq15, .int d_ran, .int d_sum, .ref dq18, .ref dq19, .ref dq20])), (dq8, .inl (cI, 40, .inl d_piece)), (dq9, .inl (cI, 40, .inl d_order)), (dq10, .inl (cI, 10, .inl d_came)), (dq11, .inl (cI, 100, .inl d_worth)), (dq12, .inl (cZ, 10, .inl d_used)), (dq13, .inl (cI, 10, .inl d_usedBy)), (dq14, .inl (cI, 10, .inl d_reservedFor)), (dq15, .inl (cI, 10, .inl d_reservedTo)), (dq18, .inl (cI, 10, .inl d_pieceDual)), (dq19, .inl (cI, 10, .inl d_orderDual)), (dq20, .inl (cJ, 11264, .inr (.inl d_table)))] H := hP
    have hD : va_D A [(dq, .inr (5, [.int u3, .int d_today, .int d_cut, .int d_aging, .int d_saleFrom, .int d_pieces, .int d_orders, .ref dq8, .ref dq9, .ref dq10, .ref dq11, .ref dq12, .ref dq13, .ref dq14, .ref dq15, .int d_ran, .int d_sum, .ref dq18, .ref dq19, .ref dq20])), (dq8, .inl (cI, 40, .inl d_piece)), (dq9, .inl (cI, 40, .inl d_order)), (dq10, .inl (cI, 10, .inl d_came)), (dq11, .inl (cI, 100, .inl d_worth)), (dq12, .inl (cZ, 10, .inl d_used)), (dq13, .inl (cI, 10, .inl d_usedBy)), (dq14, .inl (cI, 10, .inl d_reservedFor)), (dq15, .inl (cI, 10, .inl d_reservedTo)), (dq18, .inl (cI, 10, .inl d_pieceDual)), (dq19, .inl (cI, 10, .inl d_orderDual)), (dq20, .inl (cJ, 11264, .inr (.inl d_table)))] := hD
    clear hP1 hD1 hPc hDc hFc hk1 hz1
    refine lv_if_ne (tgt := 52) hx hb d_D_net_47 (by decide) (fun c9 => ?_) (fun c9 => ?_)
    · replace hm := if_f c9 hm
      refine lv_aload_n hx hb d_D_net_52 rfl (lv_at hl 1 rfl) ?_
      refine lv_iload_n hx hb d_D_net_53 rfl (lv_at hl 2 rfl) ?_
      refine lv_iload_n hx hb d_D_net_54 rfl (lv_at hl 3 rfl) ?_
      obtain ⟨r4, hc, hm⟩ := bd hm
      try dsimp only at hm
      refine vp_callSi (W.runV (As := [.int x1, .int x2]) (rest := []) ⟨hx, hb, hml, hown, hts⟩ (c_D_netOf l dC dI cI cZ cJ dq dq8 dq9 dq10 dq11 dq12 dq13 dq14 dq15 dq18 dq19 dq20 u3 d_today d_cut d_aging d_saleFrom d_pieces d_orders d_piece d_order d_came d_worth d_used d_usedBy d_reservedFor d_reservedTo d_ran d_sum d_pieceDual d_orderDual d_table x1 x2 N r4 hc) (cwV 2 hts (gV (w0 703 rfl) (w0 704 rfl) (w0 22 rfl) (w0 33 rfl) (w0 705 rfl)) rfl rfl rfl q_D_netOf ⟨Nat.le_of_ble_eq_true rfl, Nat.le_of_ble_eq_true rfl⟩) (ro_preV [0, 1, 2, 3, 4, 5, 6, 7, 8, 9, 10, 11] rfl hK hP hN 5 0 (R_D, F_D, 20) rfl rfl) rfl rfl hl.1 rfl (lv_room (Nat.le_of_ble_eq_true rfl)) d_D_net_55 ⟨Nat.le_of_ble_eq_true rfl, Nat.le_of_ble_eq_true rfl⟩) (fun r9 hr9 => ?_)
      subst hr9
      cases hm
      refine W.widen (k := 0) (n := 0) (Nat.le_of_ble_eq_true rfl) (Nat.le_of_ble_eq_true rfl) ?_
      exact W.iret hx hb hr (fun t ht hW => ⟨⟨_, (), rfl, rfl, by rw [ht]; exact hP, va_K.moved hW.alike hK, hD⟩, hS.F ht⟩) hS.2.2 d_D_net_58
    · replace hm := if_t c9 hm
      refine lv_iconst (v := 0) hx hb d_D_net_50 (by decide) ?_
      cases hm
      refine W.widen (k := 0) (n := 0) (Nat.le_of_ble_eq_true rfl) (Nat.le_of_ble_eq_true rfl) ?_
      exact W.iret hx hb hr (fun t ht hW => ⟨⟨_, (), rfl, rfl, by rw [ht]; exact hP, va_K.moved hW.alike hK, hD⟩, hS.F ht⟩) hS.2.2 d_D_net_51
  · replace hm := if_f c9 hm
    refine lv_aload_n hx hb d_D_net_8 rfl (lv_at hl 0 rfl) ?_
    refine lv_iload_n hx hb d_D_net_9 rfl (lv_at hl 2 rfl) ?_
    obtain ⟨r7, hc, hm⟩ := bd hm
    try dsimp only at hm
    refine vp_callSi (W.runV (As := [.int x2]) (rest := []) ⟨hx, hb, hml, hown, hts⟩ (c_D_isOrder l dC dI cI cZ cJ dq dq8 dq9 dq10 dq11 dq12 dq13 dq14 dq15 dq18 dq19 dq20 d_thrown d_today d_cut d_aging d_saleFrom d_pieces d_orders d_piece d_order d_came d_worth d_used d_usedBy d_reservedFor d_reservedTo d_ran d_sum d_pieceDual d_orderDual d_table x2 N r7 hc) (cwV 1 hts (gV (w0 684 rfl) (w0 685 rfl) (w0 20 rfl) (w0 33 rfl) (w0 686 rfl)) rfl rfl rfl q_D_isOrder ⟨Nat.le_of_ble_eq_true rfl, Nat.le_of_ble_eq_true rfl⟩) (ro_preV [0, 1, 2, 3, 4, 5, 6, 7, 8, 9, 10, 11] rfl hK hP hN 5 0 (R_D, F_D, 20) rfl rfl) rfl rfl hl.1 rfl (lv_room (Nat.le_of_ble_eq_true rfl)) d_D_net_10 ⟨Nat.le_of_ble_eq_true rfl, Nat.le_of_ble_eq_true rfl⟩) (fun r9 hr9 => ?_)
    subst hr9
    refine lv_if_eq (tgt := 20) hx hb d_D_net_13 (by decide) (fun c9 => ?_) (fun c9 => ?_)
    · replace hm := if_t c9 hm
      refine lv_iconst (v := 0) hx hb d_D_net_20 (by decide) ?_
      refine lv_istore_n (lv' := [(3, .int 0), (0, .ref dq), (1, .int x1), (2, .int x2)]) hx hb d_D_net_21 rfl hl (by decide) rfl (fun ls hl => ?_)
      refine lv_aload_n hx hb d_D_net_22 rfl (lv_at hl 1 rfl) ?_
      refine lv_iload_n hx hb d_D_net_23 rfl (lv_at hl 0 rfl) ?_
      refine lv_iload_n hx hb d_D_net_24 rfl (lv_at hl 0 rfl) ?_
      refine lv_if_eq (tgt := 41) hx hb d_D_net_25 (by decide) (fun c9 => ?_) (fun c9 => absurd (by decide) c9)
      clear c9
      refine lv_iconst (v := 0) hx hb d_D_net_41 (by decide) ?_
      refine lv_iconst (v := 1) hx hb d_D_net_42 (by decide) ?_
      refine lv_iconst (v := 1) hx hb d_D_net_43 (by decide) ?_
      obtain ⟨⟨r8, u9⟩, hc, hm⟩ := bd hm
      try dsimp only at hm
      have hPc := hP.sub (ws' := [(dq, .inr (5, [.int d_thrown, .int d_today, .int d_cut, .int d_aging, .int d_saleFrom, .int d_pieces, .int d_orders, .ref dq8, .ref dq9, .ref dq10, .ref dq11, .ref dq12, .ref dq13, .ref dq14, .ref dq15, .int d_ran, .int d_sum, .ref dq18, .ref dq19, .ref dq20])), (dq8, .inl (cI, 40, .inl d_piece)), (dq9, .inl (cI, 40, .inl d_order)), (dq10, .inl (cI, 10, .inl d_came)), (dq11, .inl (cI, 100, .inl d_worth)), (dq12, .inl (cZ, 10, .inl d_used)), (dq13, .inl (cI, 10, .inl d_usedBy)), (dq14, .inl (cI, 10, .inl d_reservedFor)), (dq15, .inl (cI, 10, .inl d_reservedTo)), (dq18, .inl (cI, 10, .inl d_pieceDual)), (dq19, .inl (cI, 10, .inl d_orderDual)), (dq20, .inl (cJ, 11264, .inr (.inl d_table)))]) [0, 1, 2, 3, 4, 5, 6, 7, 8, 9, 10, 11] rfl
      have hDc := hD.sub (ws' := [(dq, .inr (5, [.int d_thrown, .int d_today, .int d_cut, .int d_aging, .int d_saleFrom, .int d_pieces, .int d_orders, .ref dq8, .ref dq9, .ref dq10, .ref dq11, .ref dq12, .ref dq13, .ref dq14, .ref dq15, .int d_ran, .int d_sum, .ref dq18, .ref dq19, .ref dq20])), (dq8, .inl (cI, 40, .inl d_piece)), (dq9, .inl (cI, 40, .inl d_order)), (dq10, .inl (cI, 10, .inl d_came)), (dq11, .inl (cI, 100, .inl d_worth)), (dq12, .inl (cZ, 10, .inl d_used)), (dq13, .inl (cI, 10, .inl d_usedBy)), (dq14, .inl (cI, 10, .inl d_reservedFor)), (dq15, .inl (cI, 10, .inl d_reservedTo)), (dq18, .inl (cI, 10, .inl d_pieceDual)), (dq19, .inl (cI, 10, .inl d_orderDual)), (dq20, .inl (cJ, 11264, .inr (.inl d_table)))]) [0, 1, 2, 3, 4, 5, 6, 7, 8, 9, 10, 11] (by decide) rfl
      have hFc := va_free (wc := [(dq, .inr (5, [.int d_thrown, .int d_today, .int d_cut, .int d_aging, .int d_saleFrom, .int d_pieces, .int d_orders, .ref dq8, .ref dq9, .ref dq10, .ref dq11, .ref dq12, .ref dq13, .ref dq14, .ref dq15, .int d_ran, .int d_sum, .ref dq18, .ref dq19, .ref dq20])), (dq8, .inl (cI, 40, .inl d_piece)), (dq9, .inl (cI, 40, .inl d_order)), (dq10, .inl (cI, 10, .inl d_came)), (dq11, .inl (cI, 100, .inl d_worth)), (dq12, .inl (cZ, 10, .inl d_used)), (dq13, .inl (cI, 10, .inl d_usedBy)), (dq14, .inl (cI, 10, .inl d_reservedFor)), (dq15, .inl (cI, 10, .inl d_reservedTo)), (dq18, .inl (cI, 10, .inl d_pieceDual)), (dq19, .inl (cI, 10, .inl d_orderDual)), (dq20, .inl (cJ, 11264, .inr (.inl d_table)))]) hD hS hA [0, 1, 2, 3, 4, 5, 6, 7, 8, 9, 10, 11] rfl
      refine va_calli (va_runV (As := [.int 0, .int 0, .int 1, .int 1]) (rest := []) ⟨hx, hb, hml, hown, hts⟩ (c_D_goes l dC dI cI cZ cJ dq dq8 dq9 dq10 dq11 dq12 dq13 dq14 dq15 dq18 dq19 dq20 s.heap.size d_thrown d_today d_cut d_aging d_saleFrom d_pieces d_orders d_piece d_order d_came d_worth d_used d_usedBy d_reservedFor d_reservedTo d_ran d_sum d_pieceDual d_orderDual d_table 0 0 1 1 N (r8, u9) hc) (cwV 4 hts (gV (w0 670 rfl) (w0 671 rfl) (w0 18 rfl) (w0 33 rfl) (w0 672 rfl)) rfl rfl rfl q_D_goes ⟨Nat.le_of_ble_eq_true rfl, Nat.le_of_ble_eq_true rfl⟩) (wr_preV hK hPc hDc hN 5 0 (R_D, F_D, 20) rfl rfl) rfl rfl hl.1 rfl (lv_room (Nat.le_of_ble_eq_true rfl)) d_D_net_44 ⟨Nat.le_of_ble_eq_true rfl, Nat.le_of_ble_eq_true rfl⟩) hS (fun q _ h => hFc q h) hFc (fun r9 u t H1 locs ht hvm hw hB hz1 hk1 hS => ?_)
      subst hw
      obtain ⟨hP1, hK1, hD1⟩ := hB
      rw [ht] at hP1
      obtain ⟨hP, hD⟩ := va_join (wr := []) (w1 := [(dq, .inr (5, [.int u9, .int d_today, .int d_cut, .int d_aging, .int d_saleFrom, .int d_pieces, .int d_orders, .ref dq8, .ref dq9, .ref dq10, .ref dq11, .ref dq12, .ref dq13, .ref dq14, .ref dq15, .int d_ran, .int d_sum, .ref dq18, .ref dq19, .ref dq20])), (dq8, .inl (cI, 40, .inl d_piece)), (dq9, .inl (cI, 40, .inl d_order)), (dq10, .inl (cI, 10, .inl d_came)), (dq11, .inl (cI, 100, .inl d_worth)), (dq12, .inl (cZ, 10, .inl d_used)), (dq13, .inl (cI, 10, .inl d_usedBy)), (dq14, .inl (cI, 10, .inl d_reservedFor)), (dq15, .inl (cI, 10, .inl d_reservedTo)), (dq18, .inl (cI, 10, .inl d_pieceDual)), (dq19, .inl (cI, 10, .inl d_orderDual)), (dq20, .inl (cJ, 11264, .inr (.inl d_table)))]) hP hD [0, 1, 2, 3, 4, 5, 6, 7, 8, 9, 10, 11] [] rfl rfl (by decide) (by decide) hk1 hFc hP1 hD1
      generalize H1 = H at hP hS ⊢
      have hP : va_P (dC, dI) classes [(dq, .inr (5, [.int u9, .int d_today, .int d_cut, .int d_aging, .int d_saleFrom, .int d_pieces, .int d_orders, .ref dq8, .ref dq9, .ref dq10, .ref dq11, .ref dq12, .ref dq13, .ref dq14, .ref dq15, .int d_ran, .int d_sum, .ref dq18, .ref dq19, .ref dq20])), (dq8, .inl (cI, 40, .inl d_piece)), (dq9, .inl (cI, 40, .inl d_order)), (dq10, .inl (cI, 10, .inl d_came)), (dq11, .inl (cI, 100, .inl d_worth)), (dq12, .inl (cZ, 10, .inl d_used)), (dq13, .inl (cI, 10, .inl d_usedBy)), (dq14, .inl (cI, 10, .inl d_reservedFor)), (dq15, .inl (cI, 10, .inl d_reservedTo)), (dq18, .inl (cI, 10, .inl d_pieceDual)), (dq19, .inl (cI, 10, .inl d_orderDual)), (dq20, .inl (cJ, 11264, .inr (.inl d_table)))] H := hP
      have hD : va_D A [(dq, .inr (5, [.int u9, .int d_today, .int d_cut, .int d_aging, .int d_saleFrom, .int d_pieces, .int d_orders, .ref dq8, .ref dq9, .ref dq10, .ref dq11, .ref dq12, .ref dq13, .ref dq14, .ref dq15, .int d_ran, .int d_sum, .ref dq18, .ref dq19, .ref dq20])), (dq8, .inl (cI, 40, .inl d_piece)), (dq9, .inl (cI, 40, .inl d_order)), (dq10, .inl (cI, 10, .inl d_came)), (dq11, .inl (cI, 100, .inl d_worth)), (dq12, .inl (cZ, 10, .inl d_used)), (dq13, .inl (cI, 10, .inl d_usedBy)), (dq14, .inl (cI, 10, .inl d_reservedFor)), (dq15, .inl (cI, 10, .inl d_reservedTo)), (dq18, .inl (cI, 10, .inl d_pieceDual)), (dq19, .inl (cI, 10, .inl d_orderDual)), (dq20, .inl (cJ, 11264, .inr (.inl d_table)))] := hD
      clear hP1 hD1 hPc hDc hFc hk1 hz1
      refine lv_if_ne (tgt := 52) hx hb d_D_net_47 (by decide) (fun c9 => ?_) (fun c9 => ?_)
      · replace hm := if_f c9 hm
        refine lv_aload_n hx hb d_D_net_52 rfl (lv_at hl 1 rfl) ?_
        refine lv_iload_n hx hb d_D_net_53 rfl (lv_at hl 2 rfl) ?_
        refine lv_iload_n hx hb d_D_net_54 rfl (lv_at hl 3 rfl) ?_
        obtain ⟨r10, hc, hm⟩ := bd hm
        try dsimp only at hm
        refine vp_callSi (W.runV (As := [.int x1, .int x2]) (rest := []) ⟨hx, hb, hml, hown, hts⟩ (c_D_netOf l dC dI cI cZ cJ dq dq8 dq9 dq10 dq11 dq12 dq13 dq14 dq15 dq18 dq19 dq20 u9 d_today d_cut d_aging d_saleFrom d_pieces d_orders d_piece d_order d_came d_worth d_used d_usedBy d_reservedFor d_reservedTo d_ran d_sum d_pieceDual d_orderDual d_table x1 x2 N r10 hc) (cwV 2 hts (gV (w0 703 rfl) (w0 704 rfl) (w0 22 rfl) (w0 33 rfl) (w0 705 rfl)) rfl rfl rfl q_D_netOf ⟨Nat.le_of_ble_eq_true rfl, Nat.le_of_ble_eq_true rfl⟩) (ro_preV [0, 1, 2, 3, 4, 5, 6, 7, 8, 9, 10, 11] rfl hK hP hN 5 0 (R_D, F_D, 20) rfl rfl) rfl rfl hl.1 rfl (lv_room (Nat.le_of_ble_eq_true rfl)) d_D_net_55 ⟨Nat.le_of_ble_eq_true rfl, Nat.le_of_ble_eq_true rfl⟩) (fun r9 hr9 => ?_)
        subst hr9
        cases hm
        refine W.widen (k := 0) (n := 0) (Nat.le_of_ble_eq_true rfl) (Nat.le_of_ble_eq_true rfl) ?_
        exact W.iret hx hb hr (fun t ht hW => ⟨⟨_, (), rfl, rfl, by rw [ht]; exact hP, va_K.moved hW.alike hK, hD⟩, hS.F ht⟩) hS.2.2 d_D_net_58
      · replace hm := if_t c9 hm
        refine lv_iconst (v := 0) hx hb d_D_net_50 (by decide) ?_
        cases hm
        refine W.widen (k := 0) (n := 0) (Nat.le_of_ble_eq_true rfl) (Nat.le_of_ble_eq_true rfl) ?_
        exact W.iret hx hb hr (fun t ht hW => ⟨⟨_, (), rfl, rfl, by rw [ht]; exact hP, va_K.moved hW.alike hK, hD⟩, hS.F ht⟩) hS.2.2 d_D_net_51
    · replace hm := if_f c9 hm
      refine lv_iconst (v := 1) hx hb d_D_net_16 (by decide) ?_
      refine lv_goto (tgt := 21) hx hb d_D_net_17 (by decide) ?_
      refine lv_istore_n (lv' := [(3, .int 1), (0, .ref dq), (1, .int x1), (2, .int x2)]) hx hb d_D_net_21 rfl hl (by decide) rfl (fun ls hl => ?_)
      refine lv_aload_n hx hb d_D_net_22 rfl (lv_at hl 1 rfl) ?_
      refine lv_iload_n hx hb d_D_net_23 rfl (lv_at hl 0 rfl) ?_
      refine lv_iload_n hx hb d_D_net_24 rfl (lv_at hl 0 rfl) ?_
      refine lv_if_eq (tgt := 41) hx hb d_D_net_25 (by decide) (fun c9 => absurd c9 (by decide)) (fun c9 => ?_)
      clear c9
      refine lv_aload_n hx hb d_D_net_28 rfl (lv_at hl 1 rfl) ?_
      refine lv_iload_n hx hb d_D_net_29 rfl (lv_at hl 2 rfl) ?_
      refine lv_iload_n hx hb d_D_net_30 rfl (lv_at hl 3 rfl) ?_
      obtain ⟨r13, hc, hm⟩ := bd hm
      try dsimp only at hm
      refine vp_callSi (W.runV (As := [.int x1, .int x2]) (rest := [.int 1, .ref dq]) ⟨hx, hb, hml, hown, hts⟩ (c_D_isFit l dC dI cI cZ cJ dq dq8 dq9 dq10 dq11 dq12 dq13 dq14 dq15 dq18 dq19 dq20 d_thrown d_today d_cut d_aging d_saleFrom d_pieces d_orders d_piece d_order d_came d_worth d_used d_usedBy d_reservedFor d_reservedTo d_ran d_sum d_pieceDual d_orderDual d_table x1 x2 N r13 hc) (cwV 2 hts (gV (w0 688 rfl) (w0 689 rfl) (w0 21 rfl) (w0 33 rfl) (w0 690 rfl)) rfl rfl rfl q_D_isFit ⟨Nat.le_of_ble_eq_true rfl, Nat.le_of_ble_eq_true rfl⟩) (ro_preV [0, 1, 2, 3, 4, 5, 6, 7, 8, 9, 10, 11] rfl hK hP hN 5 0 (R_D, F_D, 20) rfl rfl) rfl rfl hl.1 rfl (lv_room (Nat.le_of_ble_eq_true rfl)) d_D_net_31 ⟨Nat.le_of_ble_eq_true rfl, Nat.le_of_ble_eq_true rfl⟩) (fun r9 hr9 => ?_)
      subst hr9
      refine lv_if_eq (tgt := 41) hx hb d_D_net_34 (by decide) (fun c9 => ?_) (fun c9 => ?_)
      · replace hm := if_t c9 hm
        refine lv_iconst (v := 0) hx hb d_D_net_41 (by decide) ?_
        refine lv_iconst (v := 1) hx hb d_D_net_42 (by decide) ?_
        refine lv_iconst (v := 1) hx hb d_D_net_43 (by decide) ?_
        obtain ⟨⟨r14, u15⟩, hc, hm⟩ := bd hm
        try dsimp only at hm
        have hPc := hP.sub (ws' := [(dq, .inr (5, [.int d_thrown, .int d_today, .int d_cut, .int d_aging, .int d_saleFrom, .int d_pieces, .int d_orders, .ref dq8, .ref dq9, .ref dq10, .ref dq11, .ref dq12, .ref dq13, .ref dq14, .ref dq15, .int d_ran, .int d_sum, .ref dq18, .ref dq19, .ref dq20])), (dq8, .inl (cI, 40, .inl d_piece)), (dq9, .inl (cI, 40, .inl d_order)), (dq10, .inl (cI, 10, .inl d_came)), (dq11, .inl (cI, 100, .inl d_worth)), (dq12, .inl (cZ, 10, .inl d_used)), (dq13, .inl (cI, 10, .inl d_usedBy)), (dq14, .inl (cI, 10, .inl d_reservedFor)), (dq15, .inl (cI, 10, .inl d_reservedTo)), (dq18, .inl (cI, 10, .inl d_pieceDual)), (dq19, .inl (cI, 10, .inl d_orderDual)), (dq20, .inl (cJ, 11264, .inr (.inl d_table)))]) [0, 1, 2, 3, 4, 5, 6, 7, 8, 9, 10, 11] rfl
        have hDc := hD.sub (ws' := [(dq, .inr (5, [.int d_thrown, .int d_today, .int d_cut, .int d_aging, .int d_saleFrom, .int d_pieces, .int d_orders, .ref dq8, .ref dq9, .ref dq10, .ref dq11, .ref dq12, .ref dq13, .ref dq14, .ref dq15, .int d_ran, .int d_sum, .ref dq18, .ref dq19, .ref dq20])), (dq8, .inl (cI, 40, .inl d_piece)), (dq9, .inl (cI, 40, .inl d_order)), (dq10, .inl (cI, 10, .inl d_came)), (dq11, .inl (cI, 100, .inl d_worth)), (dq12, .inl (cZ, 10, .inl d_used)), (dq13, .inl (cI, 10, .inl d_usedBy)), (dq14, .inl (cI, 10, .inl d_reservedFor)), (dq15, .inl (cI, 10, .inl d_reservedTo)), (dq18, .inl (cI, 10, .inl d_pieceDual)), (dq19, .inl (cI, 10, .inl d_orderDual)), (dq20, .inl (cJ, 11264, .inr (.inl d_table)))]) [0, 1, 2, 3, 4, 5, 6, 7, 8, 9, 10, 11] (by decide) rfl
        have hFc := va_free (wc := [(dq, .inr (5, [.int d_thrown, .int d_today, .int d_cut, .int d_aging, .int d_saleFrom, .int d_pieces, .int d_orders, .ref dq8, .ref dq9, .ref dq10, .ref dq11, .ref dq12, .ref dq13, .ref dq14, .ref dq15, .int d_ran, .int d_sum, .ref dq18, .ref dq19, .ref dq20])), (dq8, .inl (cI, 40, .inl d_piece)), (dq9, .inl (cI, 40, .inl d_order)), (dq10, .inl (cI, 10, .inl d_came)), (dq11, .inl (cI, 100, .inl d_worth)), (dq12, .inl (cZ, 10, .inl d_used)), (dq13, .inl (cI, 10, .inl d_usedBy)), (dq14, .inl (cI, 10, .inl d_reservedFor)), (dq15, .inl (cI, 10, .inl d_reservedTo)), (dq18, .inl (cI, 10, .inl d_pieceDual)), (dq19, .inl (cI, 10, .inl d_orderDual)), (dq20, .inl (cJ, 11264, .inr (.inl d_table)))]) hD hS hA [0, 1, 2, 3, 4, 5, 6, 7, 8, 9, 10, 11] rfl
        refine va_calli (va_runV (As := [.int 1, .int 0, .int 1, .int 1]) (rest := []) ⟨hx, hb, hml, hown, hts⟩ (c_D_goes l dC dI cI cZ cJ dq dq8 dq9 dq10 dq11 dq12 dq13 dq14 dq15 dq18 dq19 dq20 s.heap.size d_thrown d_today d_cut d_aging d_saleFrom d_pieces d_orders d_piece d_order d_came d_worth d_used d_usedBy d_reservedFor d_reservedTo d_ran d_sum d_pieceDual d_orderDual d_table 1 0 1 1 N (r14, u15) hc) (cwV 4 hts (gV (w0 670 rfl) (w0 671 rfl) (w0 18 rfl) (w0 33 rfl) (w0 672 rfl)) rfl rfl rfl q_D_goes ⟨Nat.le_of_ble_eq_true rfl, Nat.le_of_ble_eq_true rfl⟩) (wr_preV hK hPc hDc hN 5 0 (R_D, F_D, 20) rfl rfl) rfl rfl hl.1 rfl (lv_room (Nat.le_of_ble_eq_true rfl)) d_D_net_44 ⟨Nat.le_of_ble_eq_true rfl, Nat.le_of_ble_eq_true rfl⟩) hS (fun q _ h => hFc q h) hFc (fun r9 u t H1 locs ht hvm hw hB hz1 hk1 hS => ?_)
        subst hw
        obtain ⟨hP1, hK1, hD1⟩ := hB
        rw [ht] at hP1
        obtain ⟨hP, hD⟩ := va_join (wr := []) (w1 := [(dq, .inr (5, [.int u15, .int d_today, .int d_cut, .int d_aging, .int d_saleFrom, .int d_pieces, .int d_orders, .ref dq8, .ref dq9, .ref dq10, .ref dq11, .ref dq12, .ref dq13, .ref dq14, .ref dq15, .int d_ran, .int d_sum, .ref dq18, .ref dq19, .ref dq20])), (dq8, .inl (cI, 40, .inl d_piece)), (dq9, .inl (cI, 40, .inl d_order)), (dq10, .inl (cI, 10, .inl d_came)), (dq11, .inl (cI, 100, .inl d_worth)), (dq12, .inl (cZ, 10, .inl d_used)), (dq13, .inl (cI, 10, .inl d_usedBy)), (dq14, .inl (cI, 10, .inl d_reservedFor)), (dq15, .inl (cI, 10, .inl d_reservedTo)), (dq18, .inl (cI, 10, .inl d_pieceDual)), (dq19, .inl (cI, 10, .inl d_orderDual)), (dq20, .inl (cJ, 11264, .inr (.inl d_table)))]) hP hD [0, 1, 2, 3, 4, 5, 6, 7, 8, 9, 10, 11] [] rfl rfl (by decide) (by decide) hk1 hFc hP1 hD1
        generalize H1 = H at hP hS ⊢
        have hP : va_P (dC, dI) classes [(dq, .inr (5, [.int u15, .int d_today, .int d_cut, .int d_aging, .int d_saleFrom, .int d_pieces, .int d_orders, .ref dq8, .ref dq9, .ref dq10, .ref dq11, .ref dq12, .ref dq13, .ref dq14, .ref dq15, .int d_ran, .int d_sum, .ref dq18, .ref dq19, .ref dq20])), (dq8, .inl (cI, 40, .inl d_piece)), (dq9, .inl (cI, 40, .inl d_order)), (dq10, .inl (cI, 10, .inl d_came)), (dq11, .inl (cI, 100, .inl d_worth)), (dq12, .inl (cZ, 10, .inl d_used)), (dq13, .inl (cI, 10, .inl d_usedBy)), (dq14, .inl (cI, 10, .inl d_reservedFor)), (dq15, .inl (cI, 10, .inl d_reservedTo)), (dq18, .inl (cI, 10, .inl d_pieceDual)), (dq19, .inl (cI, 10, .inl d_orderDual)), (dq20, .inl (cJ, 11264, .inr (.inl d_table)))] H := hP
        have hD : va_D A [(dq, .inr (5, [.int u15, .int d_today, .int d_cut, .int d_aging, .int d_saleFrom, .int d_pieces, .int d_orders, .ref dq8, .ref dq9, .ref dq10, .ref dq11, .ref dq12, .ref dq13, .ref dq14, .ref dq15, .int d_ran, .int d_sum, .ref dq18, .ref dq19, .ref dq20])), (dq8, .inl (cI, 40, .inl d_piece)), (dq9, .inl (cI, 40, .inl d_order)), (dq10, .inl (cI, 10, .inl d_came)), (dq11, .inl (cI, 100, .inl d_worth)), (dq12, .inl (cZ, 10, .inl d_used)), (dq13, .inl (cI, 10, .inl d_usedBy)), (dq14, .inl (cI, 10, .inl d_reservedFor)), (dq15, .inl (cI, 10, .inl d_reservedTo)), (dq18, .inl (cI, 10, .inl d_pieceDual)), (dq19, .inl (cI, 10, .inl d_orderDual)), (dq20, .inl (cJ, 11264, .inr (.inl d_table)))] := hD
        clear hP1 hD1 hPc hDc hFc hk1 hz1
        refine lv_if_ne (tgt := 52) hx hb d_D_net_47 (by decide) (fun c9 => ?_) (fun c9 => ?_)
        · replace hm := if_f c9 hm
          refine lv_aload_n hx hb d_D_net_52 rfl (lv_at hl 1 rfl) ?_
          refine lv_iload_n hx hb d_D_net_53 rfl (lv_at hl 2 rfl) ?_
          refine lv_iload_n hx hb d_D_net_54 rfl (lv_at hl 3 rfl) ?_
          obtain ⟨r16, hc, hm⟩ := bd hm
          try dsimp only at hm
          refine vp_callSi (W.runV (As := [.int x1, .int x2]) (rest := []) ⟨hx, hb, hml, hown, hts⟩ (c_D_netOf l dC dI cI cZ cJ dq dq8 dq9 dq10 dq11 dq12 dq13 dq14 dq15 dq18 dq19 dq20 u15 d_today d_cut d_aging d_saleFrom d_pieces d_orders d_piece d_order d_came d_worth d_used d_usedBy d_reservedFor d_reservedTo d_ran d_sum d_pieceDual d_orderDual d_table x1 x2 N r16 hc) (cwV 2 hts (gV (w0 703 rfl) (w0 704 rfl) (w0 22 rfl) (w0 33 rfl) (w0 705 rfl)) rfl rfl rfl q_D_netOf ⟨Nat.le_of_ble_eq_true rfl, Nat.le_of_ble_eq_true rfl⟩) (ro_preV [0, 1, 2, 3, 4, 5, 6, 7, 8, 9, 10, 11] rfl hK hP hN 5 0 (R_D, F_D, 20) rfl rfl) rfl rfl hl.1 rfl (lv_room (Nat.le_of_ble_eq_true rfl)) d_D_net_55 ⟨Nat.le_of_ble_eq_true rfl, Nat.le_of_ble_eq_true rfl⟩) (fun r9 hr9 => ?_)
          subst hr9
          cases hm
          refine W.widen (k := 0) (n := 0) (Nat.le_of_ble_eq_true rfl) (Nat.le_of_ble_eq_true rfl) ?_
          exact W.iret hx hb hr (fun t ht hW => ⟨⟨_, (), rfl, rfl, by rw [ht]; exact hP, va_K.moved hW.alike hK, hD⟩, hS.F ht⟩) hS.2.2 d_D_net_58
        · replace hm := if_t c9 hm
          refine lv_iconst (v := 0) hx hb d_D_net_50 (by decide) ?_
          cases hm
          refine W.widen (k := 0) (n := 0) (Nat.le_of_ble_eq_true rfl) (Nat.le_of_ble_eq_true rfl) ?_
          exact W.iret hx hb hr (fun t ht hW => ⟨⟨_, (), rfl, rfl, by rw [ht]; exact hP, va_K.moved hW.alike hK, hD⟩, hS.F ht⟩) hS.2.2 d_D_net_51
      · replace hm := if_f c9 hm
        refine lv_iconst (v := 1) hx hb d_D_net_37 (by decide) ?_
        refine lv_goto (tgt := 42) hx hb d_D_net_38 (by decide) ?_
        refine lv_iconst (v := 1) hx hb d_D_net_42 (by decide) ?_
        refine lv_iconst (v := 1) hx hb d_D_net_43 (by decide) ?_
        obtain ⟨⟨r19, u20⟩, hc, hm⟩ := bd hm
        try dsimp only at hm
        have hPc := hP.sub (ws' := [(dq, .inr (5, [.int d_thrown, .int d_today, .int d_cut, .int d_aging, .int d_saleFrom, .int d_pieces, .int d_orders, .ref dq8, .ref dq9, .ref dq10, .ref dq11, .ref dq12, .ref dq13, .ref dq14, .ref dq15, .int d_ran, .int d_sum, .ref dq18, .ref dq19, .ref dq20])), (dq8, .inl (cI, 40, .inl d_piece)), (dq9, .inl (cI, 40, .inl d_order)), (dq10, .inl (cI, 10, .inl d_came)), (dq11, .inl (cI, 100, .inl d_worth)), (dq12, .inl (cZ, 10, .inl d_used)), (dq13, .inl (cI, 10, .inl d_usedBy)), (dq14, .inl (cI, 10, .inl d_reservedFor)), (dq15, .inl (cI, 10, .inl d_reservedTo)), (dq18, .inl (cI, 10, .inl d_pieceDual)), (dq19, .inl (cI, 10, .inl d_orderDual)), (dq20, .inl (cJ, 11264, .inr (.inl d_table)))]) [0, 1, 2, 3, 4, 5, 6, 7, 8, 9, 10, 11] rfl
        have hDc := hD.sub (ws' := [(dq, .inr (5, [.int d_thrown, .int d_today, .int d_cut, .int d_aging, .int d_saleFrom, .int d_pieces, .int d_orders, .ref dq8, .ref dq9, .ref dq10, .ref dq11, .ref dq12, .ref dq13, .ref dq14, .ref dq15, .int d_ran, .int d_sum, .ref dq18, .ref dq19, .ref dq20])), (dq8, .inl (cI, 40, .inl d_piece)), (dq9, .inl (cI, 40, .inl d_order)), (dq10, .inl (cI, 10, .inl d_came)), (dq11, .inl (cI, 100, .inl d_worth)), (dq12, .inl (cZ, 10, .inl d_used)), (dq13, .inl (cI, 10, .inl d_usedBy)), (dq14, .inl (cI, 10, .inl d_reservedFor)), (dq15, .inl (cI, 10, .inl d_reservedTo)), (dq18, .inl (cI, 10, .inl d_pieceDual)), (dq19, .inl (cI, 10, .inl d_orderDual)), (dq20, .inl (cJ, 11264, .inr (.inl d_table)))]) [0, 1, 2, 3, 4, 5, 6, 7, 8, 9, 10, 11] (by decide) rfl
        have hFc := va_free (wc := [(dq, .inr (5, [.int d_thrown, .int d_today, .int d_cut, .int d_aging, .int d_saleFrom, .int d_pieces, .int d_orders, .ref dq8, .ref dq9, .ref dq10, .ref dq11, .ref dq12, .ref dq13, .ref dq14, .ref dq15, .int d_ran, .int d_sum, .ref dq18, .ref dq19, .ref dq20])), (dq8, .inl (cI, 40, .inl d_piece)), (dq9, .inl (cI, 40, .inl d_order)), (dq10, .inl (cI, 10, .inl d_came)), (dq11, .inl (cI, 100, .inl d_worth)), (dq12, .inl (cZ, 10, .inl d_used)), (dq13, .inl (cI, 10, .inl d_usedBy)), (dq14, .inl (cI, 10, .inl d_reservedFor)), (dq15, .inl (cI, 10, .inl d_reservedTo)), (dq18, .inl (cI, 10, .inl d_pieceDual)), (dq19, .inl (cI, 10, .inl d_orderDual)), (dq20, .inl (cJ, 11264, .inr (.inl d_table)))]) hD hS hA [0, 1, 2, 3, 4, 5, 6, 7, 8, 9, 10, 11] rfl
        refine va_calli (va_runV (As := [.int 1, .int 1, .int 1, .int 1]) (rest := []) ⟨hx, hb, hml, hown, hts⟩ (c_D_goes l dC dI cI cZ cJ dq dq8 dq9 dq10 dq11 dq12 dq13 dq14 dq15 dq18 dq19 dq20 s.heap.size d_thrown d_today d_cut d_aging d_saleFrom d_pieces d_orders d_piece d_order d_came d_worth d_used d_usedBy d_reservedFor d_reservedTo d_ran d_sum d_pieceDual d_orderDual d_table 1 1 1 1 N (r19, u20) hc) (cwV 4 hts (gV (w0 670 rfl) (w0 671 rfl) (w0 18 rfl) (w0 33 rfl) (w0 672 rfl)) rfl rfl rfl q_D_goes ⟨Nat.le_of_ble_eq_true rfl, Nat.le_of_ble_eq_true rfl⟩) (wr_preV hK hPc hDc hN 5 0 (R_D, F_D, 20) rfl rfl) rfl rfl hl.1 rfl (lv_room (Nat.le_of_ble_eq_true rfl)) d_D_net_44 ⟨Nat.le_of_ble_eq_true rfl, Nat.le_of_ble_eq_true rfl⟩) hS (fun q _ h => hFc q h) hFc (fun r9 u t H1 locs ht hvm hw hB hz1 hk1 hS => ?_)
        subst hw
        obtain ⟨hP1, hK1, hD1⟩ := hB
        rw [ht] at hP1
        obtain ⟨hP, hD⟩ := va_join (wr := []) (w1 := [(dq, .inr (5, [.int u20, .int d_today, .int d_cut, .int d_aging, .int d_saleFrom, .int d_pieces, .int d_orders, .ref dq8, .ref dq9, .ref dq10, .ref dq11, .ref dq12, .ref dq13, .ref dq14, .ref dq15, .int d_ran, .int d_sum, .ref dq18, .ref dq19, .ref dq20])), (dq8, .inl (cI, 40, .inl d_piece)), (dq9, .inl (cI, 40, .inl d_order)), (dq10, .inl (cI, 10, .inl d_came)), (dq11, .inl (cI, 100, .inl d_worth)), (dq12, .inl (cZ, 10, .inl d_used)), (dq13, .inl (cI, 10, .inl d_usedBy)), (dq14, .inl (cI, 10, .inl d_reservedFor)), (dq15, .inl (cI, 10, .inl d_reservedTo)), (dq18, .inl (cI, 10, .inl d_pieceDual)), (dq19, .inl (cI, 10, .inl d_orderDual)), (dq20, .inl (cJ, 11264, .inr (.inl d_table)))]) hP hD [0, 1, 2, 3, 4, 5, 6, 7, 8, 9, 10, 11] [] rfl rfl (by decide) (by decide) hk1 hFc hP1 hD1
        generalize H1 = H at hP hS ⊢
        have hP : va_P (dC, dI) classes [(dq, .inr (5, [.int u20, .int d_today, .int d_cut, .int d_aging, .int d_saleFrom, .int d_pieces, .int d_orders, .ref dq8, .ref dq9, .ref dq10, .ref dq11, .ref dq12, .ref dq13, .ref dq14, .ref dq15, .int d_ran, .int d_sum, .ref dq18, .ref dq19, .ref dq20])), (dq8, .inl (cI, 40, .inl d_piece)), (dq9, .inl (cI, 40, .inl d_order)), (dq10, .inl (cI, 10, .inl d_came)), (dq11, .inl (cI, 100, .inl d_worth)), (dq12, .inl (cZ, 10, .inl d_used)), (dq13, .inl (cI, 10, .inl d_usedBy)), (dq14, .inl (cI, 10, .inl d_reservedFor)), (dq15, .inl (cI, 10, .inl d_reservedTo)), (dq18, .inl (cI, 10, .inl d_pieceDual)), (dq19, .inl (cI, 10, .inl d_orderDual)), (dq20, .inl (cJ, 11264, .inr (.inl d_table)))] H := hP
        have hD : va_D A [(dq, .inr (5, [.int u20, .int d_today, .int d_cut, .int d_aging, .int d_saleFrom, .int d_pieces, .int d_orders, .ref dq8, .ref dq9, .ref dq10, .ref dq11, .ref dq12, .ref dq13, .ref dq14, .ref dq15, .int d_ran, .int d_sum, .ref dq18, .ref dq19, .ref dq20])), (dq8, .inl (cI, 40, .inl d_piece)), (dq9, .inl (cI, 40, .inl d_order)), (dq10, .inl (cI, 10, .inl d_came)), (dq11, .inl (cI, 100, .inl d_worth)), (dq12, .inl (cZ, 10, .inl d_used)), (dq13, .inl (cI, 10, .inl d_usedBy)), (dq14, .inl (cI, 10, .inl d_reservedFor)), (dq15, .inl (cI, 10, .inl d_reservedTo)), (dq18, .inl (cI, 10, .inl d_pieceDual)), (dq19, .inl (cI, 10, .inl d_orderDual)), (dq20, .inl (cJ, 11264, .inr (.inl d_table)))] := hD
        clear hP1 hD1 hPc hDc hFc hk1 hz1
        refine lv_if_ne (tgt := 52) hx hb d_D_net_47 (by decide) (fun c9 => ?_) (fun c9 => ?_)
        · replace hm := if_f c9 hm
          refine lv_aload_n hx hb d_D_net_52 rfl (lv_at hl 1 rfl) ?_
          refine lv_iload_n hx hb d_D_net_53 rfl (lv_at hl 2 rfl) ?_
          refine lv_iload_n hx hb d_D_net_54 rfl (lv_at hl 3 rfl) ?_
          obtain ⟨r21, hc, hm⟩ := bd hm
          try dsimp only at hm
          refine vp_callSi (W.runV (As := [.int x1, .int x2]) (rest := []) ⟨hx, hb, hml, hown, hts⟩ (c_D_netOf l dC dI cI cZ cJ dq dq8 dq9 dq10 dq11 dq12 dq13 dq14 dq15 dq18 dq19 dq20 u20 d_today d_cut d_aging d_saleFrom d_pieces d_orders d_piece d_order d_came d_worth d_used d_usedBy d_reservedFor d_reservedTo d_ran d_sum d_pieceDual d_orderDual d_table x1 x2 N r21 hc) (cwV 2 hts (gV (w0 703 rfl) (w0 704 rfl) (w0 22 rfl) (w0 33 rfl) (w0 705 rfl)) rfl rfl rfl q_D_netOf ⟨Nat.le_of_ble_eq_true rfl, Nat.le_of_ble_eq_true rfl⟩) (ro_preV [0, 1, 2, 3, 4, 5, 6, 7, 8, 9, 10, 11] rfl hK hP hN 5 0 (R_D, F_D, 20) rfl rfl) rfl rfl hl.1 rfl (lv_room (Nat.le_of_ble_eq_true rfl)) d_D_net_55 ⟨Nat.le_of_ble_eq_true rfl, Nat.le_of_ble_eq_true rfl⟩) (fun r9 hr9 => ?_)
          subst hr9
          cases hm
          refine W.widen (k := 0) (n := 0) (Nat.le_of_ble_eq_true rfl) (Nat.le_of_ble_eq_true rfl) ?_
          exact W.iret hx hb hr (fun t ht hW => ⟨⟨_, (), rfl, rfl, by rw [ht]; exact hP, va_K.moved hW.alike hK, hD⟩, hS.F ht⟩) hS.2.2 d_D_net_58
        · replace hm := if_t c9 hm
          refine lv_iconst (v := 0) hx hb d_D_net_50 (by decide) ?_
          cases hm
          refine W.widen (k := 0) (n := 0) (Nat.le_of_ble_eq_true rfl) (Nat.le_of_ble_eq_true rfl) ?_
          exact W.iret hx hb hr (fun t ht hW => ⟨⟨_, (), rfl, rfl, by rw [ht]; exact hP, va_K.moved hW.alike hK, hD⟩, hS.F ht⟩) hS.2.2 d_D_net_51

def w_D_fill : List Cond := .code y_D_fill b_D_fill 9 none :: W0
theorem q_D_fill : y_D_fill.cls = R_D ∧ y_D_fill.cls ≠ "java/lang/invoke/MethodHandle" ∧ y_D_fill.cls ≠ "java/lang/invoke/VarHandle" ∧ (parseMethodDescriptor y_D_fill.desc).map (fun d => d.parameters.length) = some 1 := by decide +kernel
def L_D_fill_2 (N : Nat) (d_pieces : Int32) (K : Int32 → Int32 → (Nat → Int64) → Option (Nat → Int64)) : Nat → Int32 → Int32 → (Nat → Int64) → Option (Nat → Int64)
  | 0, _, _, _ => none
  | n + 1, y1a, y2a, d_tablea =>
    (if 1024 ≤ y2a then
    K y1a y2a d_tablea
   else
    (if ((1024 * d_pieces) + y2a) < 0 ∨ 11264 ≤ ((1024 * d_pieces) + y2a).toNatClampNeg then none else
    L_D_fill_2 N d_pieces K n y1a (y2a + 1) (vp_updL d_tablea ((1024 * d_pieces) + y2a).toNatClampNeg 0)))
def L_D_fill_44 (N : Nat)  (K : Int32 → Int32 → Int32 → (Nat → Int64) → Option (Nat → Int64)) : Nat → Int32 → Int32 → Int32 → (Nat → Int64) → Option (Nat → Int64)
  | 0, _, _, _, _ => none
  | n + 1, y1c, y2c, y3c, d_tablec =>
    (if 1024 ≤ y3c then
    K y1c y2c y3c d_tablec
   else
    (if ((1024 * (y2c + 1)) + y3c) < 0 ∨ 11264 ≤ ((1024 * (y2c + 1)) + y3c).toNatClampNeg then none else
    (if ((1024 * y2c) + y3c) < 0 ∨ 11264 ≤ ((1024 * y2c) + y3c).toNatClampNeg then none else
    L_D_fill_44 N  K n y1c y2c (y3c + 1) (vp_updL d_tablec ((1024 * y2c) + y3c).toNatClampNeg (d_tablec ((1024 * (y2c + 1)) + y3c).toNatClampNeg)))))
def L_D_fill_128 (N : Nat)  (K : Int32 → Int32 → Int32 → Int64 → Int32 → (Nat → Int64) → Option (Nat → Int64)) : Nat → Int32 → Int32 → Int32 → Int64 → Int32 → (Nat → Int64) → Option (Nat → Int64)
  | 0, _, _, _, _, _, _ => none
  | n + 1, y1e, y2e, y3e, y4e, y6e, d_tablee =>
    (if 1024 ≤ y6e then
    K y1e y2e y3e y4e y6e d_tablee
   else
    (if ((y6e >>> (y3e &&& 31)) &&& 1) = 1 then
      L_D_fill_128 N  K n y1e y2e y3e y4e (y6e + 1) d_tablee
     else
      (if ((1024 * (y2e + 1)) + (y6e ||| ((1 : Int32) <<< (y3e &&& 31)))) < 0 ∨ 11264 ≤ ((1024 * (y2e + 1)) + (y6e ||| ((1 : Int32) <<< (y3e &&& 31)))).toNatClampNeg then none else
      (if ((1024 * y2e) + y6e) < 0 ∨ 11264 ≤ ((1024 * y2e) + y6e).toNatClampNeg then none else
      (if (lg_cmp ((d_tablee ((1024 * (y2e + 1)) + (y6e ||| ((1 : Int32) <<< (y3e &&& 31)))).toNatClampNeg) + y4e) (d_tablee ((1024 * y2e) + y6e).toNatClampNeg)) ≤ 0 then
        L_D_fill_128 N  K n y1e y2e y3e y4e (y6e + 1) d_tablee
       else
        (if ((1024 * y2e) + y6e) < 0 ∨ 11264 ≤ ((1024 * y2e) + y6e).toNatClampNeg then none else
        L_D_fill_128 N  K n y1e y2e y3e y4e (y6e + 1) (vp_updL d_tablee ((1024 * y2e) + y6e).toNatClampNeg ((d_tablee ((1024 * (y2e + 1)) + (y6e ||| ((1 : Int32) <<< (y3e &&& 31)))).toNatClampNeg) + y4e))))))))
def L_D_fill_85 (N : Nat) (d_today : Int32) (d_cut : Int32) (d_aging : Int32) (d_pieces : Int32) (d_orders : Int32) (d_piece : Nat → Int32) (d_order : Nat → Int32) (d_came : Nat → Int32) (d_worth : Nat → Int32) (d_used : Nat → Int32) (d_usedBy : Nat → Int32) (d_reservedFor : Nat → Int32) (d_reservedTo : Nat → Int32) (K : Int32 → Int32 → Int32 → (Nat → Int64) → Option (Nat → Int64)) : Nat → Int32 → Int32 → Int32 → (Nat → Int64) → Option (Nat → Int64)
  | 0, _, _, _, _ => none
  | n + 1, y1d, y2d, y3d, d_tabled =>
    (if d_orders ≤ y3d then
    K y1d y2d y3d d_tabled
   else
    (if y3d = y1d then
      L_D_fill_85 N d_today d_cut d_aging d_pieces d_orders d_piece d_order d_came d_worth d_used d_usedBy d_reservedFor d_reservedTo K n y1d y2d (y3d + 1) d_tabled
     else
      ((m_D_can N d_today d_pieces d_piece d_order d_used d_usedBy d_reservedFor d_reservedTo y2d y3d).bind fun r1 =>
        (if r1 = 0 then
          L_D_fill_85 N d_today d_cut d_aging d_pieces d_orders d_piece d_order d_came d_worth d_used d_usedBy d_reservedFor d_reservedTo K n y1d y2d (y3d + 1) d_tabled
         else
          ((m_D_netOf d_today d_cut d_aging d_piece d_order d_came d_worth y2d y3d).bind fun r2 =>
            L_D_fill_128 N  (fun y1e y2e y3e y4e y6e d_tablee =>
              L_D_fill_85 N d_today d_cut d_aging d_pieces d_orders d_piece d_order d_came d_worth d_used d_usedBy d_reservedFor d_reservedTo K n y1e y2e (y3e + 1) d_tablee) N y1d y2d y3d ((16 * r2.toInt64) + 1) 0 d_tabled)))))
def L_D_fill_38 (N : Nat) (d_today : Int32) (d_cut : Int32) (d_aging : Int32) (d_pieces : Int32) (d_orders : Int32) (d_piece : Nat → Int32) (d_order : Nat → Int32) (d_came : Nat → Int32) (d_worth : Nat → Int32) (d_used : Nat → Int32) (d_usedBy : Nat → Int32) (d_reservedFor : Nat → Int32) (d_reservedTo : Nat → Int32) (K : Int32 → Int32 → (Nat → Int64) → Option (Nat → Int64)) : Nat → Int32 → Int32 → (Nat → Int64) → Option (Nat → Int64)
  | 0, _, _, _ => none
  | n + 1, y1b, y2b, d_tableb =>
    (if y2b < 0 then
    K y1b y2b d_tableb
   else
    L_D_fill_44 N  (fun y1c y2c y3c d_tablec =>
      L_D_fill_85 N d_today d_cut d_aging d_pieces d_orders d_piece d_order d_came d_worth d_used d_usedBy d_reservedFor d_reservedTo (fun y1d y2d y3d d_tabled =>
        L_D_fill_38 N d_today d_cut d_aging d_pieces d_orders d_piece d_order d_came d_worth d_used d_usedBy d_reservedFor d_reservedTo K n y1d (y2d + (-1)) d_tabled) N y1c y2c 0 d_tablec) N y1b y2b 0 d_tableb)
def m_D_fill (N : Nat) (d_today : Int32) (d_cut : Int32) (d_aging : Int32) (d_pieces : Int32) (d_orders : Int32) (d_piece : Nat → Int32) (d_order : Nat → Int32) (d_came : Nat → Int32) (d_worth : Nat → Int32) (d_used : Nat → Int32) (d_usedBy : Nat → Int32) (d_reservedFor : Nat → Int32) (d_reservedTo : Nat → Int32) (d_table : Nat → Int64) (x1 : Int32) : Option (Nat → Int64) :=
  L_D_fill_2 N d_pieces (fun y1a y2a d_tablea =>
  L_D_fill_38 N d_today d_cut d_aging d_pieces d_orders d_piece d_order d_came d_worth d_used d_usedBy d_reservedFor d_reservedTo (fun y1b y2b d_tableb =>
    some d_tableb) N y1a (d_pieces - 1) d_tablea) N x1 0 d_table
set_option maxHeartbeats 4000000 in
set_option maxRecDepth 100000 in
theorem c_D_fill (l : Launch) (dC : Nat → ClassId) (dI : Nat → Nat → Nat) (cI cZ cJ : ClassId) (dq dq8 dq9 dq10 dq11 dq12 dq13 dq14 dq15 dq18 dq19 dq20 : Nat) (sz : Nat) (d_thrown : Int32) (d_today : Int32) (d_cut : Int32) (d_aging : Int32) (d_saleFrom : Int32) (d_pieces : Int32) (d_orders : Int32) (d_piece : Nat → Int32) (d_order : Nat → Int32) (d_came : Nat → Int32) (d_worth : Nat → Int32) (d_used : Nat → Int32) (d_usedBy : Nat → Int32) (d_reservedFor : Nat → Int32) (d_reservedTo : Nat → Int32) (d_ran : Int32) (d_sum : Int32) (d_pieceDual : Nat → Int32) (d_orderDual : Nat → Int32) (d_table : Nat → Int64) (x1 : Int32) (N : Nat) (res : (Nat → Int64)) (hm : m_D_fill N d_today d_cut d_aging d_pieces d_orders d_piece d_order d_came d_worth d_used d_usedBy d_reservedFor d_reservedTo d_table x1 = some res) : Met l y_D_fill w_D_fill ({ frames := 3, cells := 0, slots := 0, locals := 67 } : Room) (va_Pc [.ref dq, .int x1] (fun U => U.heap.size = sz ∧ va_P (dC, dI) classes [(dq, .inr (5, [.int d_thrown, .int d_today, .int d_cut, .int d_aging, .int d_saleFrom, .int d_pieces, .int d_orders, .ref dq8, .ref dq9, .ref dq10, .ref dq11, .ref dq12, .ref dq13, .ref dq14, .ref dq15, .int d_ran, .int d_sum, .ref dq18, .ref dq19, .ref dq20])), (dq8, .inl (cI, 40, .inl d_piece)), (dq9, .inl (cI, 40, .inl d_order)), (dq10, .inl (cI, 10, .inl d_came)), (dq11, .inl (cI, 100, .inl d_worth)), (dq12, .inl (cZ, 10, .inl d_used)), (dq13, .inl (cI, 10, .inl d_usedBy)), (dq14, .inl (cI, 10, .inl d_reservedFor)), (dq15, .inl (cI, 10, .inl d_reservedTo)), (dq18, .inl (cI, 10, .inl d_pieceDual)), (dq19, .inl (cI, 10, .inl d_orderDual)), (dq20, .inl (cJ, 11264, .inr (.inl d_table)))] U.heap ∧ va_K (dC, dI) classes [(cI, .int), (cZ, .boolean), (cJ, .long)] U ∧ va_D (fun _ => True) [(dq, .inr (5, [.int d_thrown, .int d_today, .int d_cut, .int d_aging, .int d_saleFrom, .int d_pieces, .int d_orders, .ref dq8, .ref dq9, .ref dq10, .ref dq11, .ref dq12, .ref dq13, .ref dq14, .ref dq15, .int d_ran, .int d_sum, .ref dq18, .ref dq19, .ref dq20])), (dq8, .inl (cI, 40, .inl d_piece)), (dq9, .inl (cI, 40, .inl d_order)), (dq10, .inl (cI, 10, .inl d_came)), (dq11, .inl (cI, 100, .inl d_worth)), (dq12, .inl (cZ, 10, .inl d_used)), (dq13, .inl (cI, 10, .inl d_usedBy)), (dq14, .inl (cI, 10, .inl d_reservedFor)), (dq15, .inl (cI, 10, .inl d_reservedTo)), (dq18, .inl (cI, 10, .inl d_pieceDual)), (dq19, .inl (cI, 10, .inl d_orderDual)), (dq20, .inl (cJ, 11264, .inr (.inl d_table)))] ∧ nw U)) (va_Qv (fun _ : Unit => True) (fun _ t => va_P (dC, dI) classes [(dq, .inr (5, [.int d_thrown, .int d_today, .int d_cut, .int d_aging, .int d_saleFrom, .int d_pieces, .int d_orders, .ref dq8, .ref dq9, .ref dq10, .ref dq11, .ref dq12, .ref dq13, .ref dq14, .ref dq15, .int d_ran, .int d_sum, .ref dq18, .ref dq19, .ref dq20])), (dq8, .inl (cI, 40, .inl d_piece)), (dq9, .inl (cI, 40, .inl d_order)), (dq10, .inl (cI, 10, .inl d_came)), (dq11, .inl (cI, 100, .inl d_worth)), (dq12, .inl (cZ, 10, .inl d_used)), (dq13, .inl (cI, 10, .inl d_usedBy)), (dq14, .inl (cI, 10, .inl d_reservedFor)), (dq15, .inl (cI, 10, .inl d_reservedTo)), (dq18, .inl (cI, 10, .inl d_pieceDual)), (dq19, .inl (cI, 10, .inl d_orderDual)), (dq20, .inl (cJ, 11264, .inr (.inl res)))] t.heap ∧ va_K (dC, dI) classes [(cI, .int), (cZ, .boolean), (cJ, .long)] t ∧ va_D (va_A [(dq, .inr (5, [.int d_thrown, .int d_today, .int d_cut, .int d_aging, .int d_saleFrom, .int d_pieces, .int d_orders, .ref dq8, .ref dq9, .ref dq10, .ref dq11, .ref dq12, .ref dq13, .ref dq14, .ref dq15, .int d_ran, .int d_sum, .ref dq18, .ref dq19, .ref dq20])), (dq8, .inl (cI, 40, .inl d_piece)), (dq9, .inl (cI, 40, .inl d_order)), (dq10, .inl (cI, 10, .inl d_came)), (dq11, .inl (cI, 100, .inl d_worth)), (dq12, .inl (cZ, 10, .inl d_used)), (dq13, .inl (cI, 10, .inl d_usedBy)), (dq14, .inl (cI, 10, .inl d_reservedFor)), (dq15, .inl (cI, 10, .inl d_reservedTo)), (dq18, .inl (cI, 10, .inl d_pieceDual)), (dq19, .inl (cI, 10, .inl d_orderDual)), (dq20, .inl (cJ, 11264, .inr (.inl d_table)))] sz) [(dq, .inr (5, [.int d_thrown, .int d_today, .int d_cut, .int d_aging, .int d_saleFrom, .int d_pieces, .int d_orders, .ref dq8, .ref dq9, .ref dq10, .ref dq11, .ref dq12, .ref dq13, .ref dq14, .ref dq15, .int d_ran, .int d_sum, .ref dq18, .ref dq19, .ref dq20])), (dq8, .inl (cI, 40, .inl d_piece)), (dq9, .inl (cI, 40, .inl d_order)), (dq10, .inl (cI, 10, .inl d_came)), (dq11, .inl (cI, 100, .inl d_worth)), (dq12, .inl (cZ, 10, .inl d_used)), (dq13, .inl (cI, 10, .inl d_usedBy)), (dq14, .inl (cI, 10, .inl d_reservedFor)), (dq15, .inl (cI, 10, .inl d_reservedTo)), (dq18, .inl (cI, 10, .inl d_pieceDual)), (dq19, .inl (cI, 10, .inl d_orderDual)), (dq20, .inl (cJ, 11264, .inr (.inl res)))]) (va_A [(dq, .inr (5, [.int d_thrown, .int d_today, .int d_cut, .int d_aging, .int d_saleFrom, .int d_pieces, .int d_orders, .ref dq8, .ref dq9, .ref dq10, .ref dq11, .ref dq12, .ref dq13, .ref dq14, .ref dq15, .int d_ran, .int d_sum, .ref dq18, .ref dq19, .ref dq20])), (dq8, .inl (cI, 40, .inl d_piece)), (dq9, .inl (cI, 40, .inl d_order)), (dq10, .inl (cI, 10, .inl d_came)), (dq11, .inl (cI, 100, .inl d_worth)), (dq12, .inl (cZ, 10, .inl d_used)), (dq13, .inl (cI, 10, .inl d_usedBy)), (dq14, .inl (cI, 10, .inl d_reservedFor)), (dq15, .inl (cI, 10, .inl d_reservedTo)), (dq18, .inl (cI, 10, .inl d_pieceDual)), (dq19, .inl (cI, 10, .inl d_orderDual)), (dq20, .inl (cJ, 11264, .inr (.inl d_table)))] sz)) 0 0 (va_A [(dq, .inr (5, [.int d_thrown, .int d_today, .int d_cut, .int d_aging, .int d_saleFrom, .int d_pieces, .int d_orders, .ref dq8, .ref dq9, .ref dq10, .ref dq11, .ref dq12, .ref dq13, .ref dq14, .ref dq15, .int d_ran, .int d_sum, .ref dq18, .ref dq19, .ref dq20])), (dq8, .inl (cI, 40, .inl d_piece)), (dq9, .inl (cI, 40, .inl d_order)), (dq10, .inl (cI, 10, .inl d_came)), (dq11, .inl (cI, 100, .inl d_worth)), (dq12, .inl (cZ, 10, .inl d_used)), (dq13, .inl (cI, 10, .inl d_usedBy)), (dq14, .inl (cI, 10, .inl d_reservedFor)), (dq15, .inl (cI, 10, .inl d_reservedTo)), (dq18, .inl (cI, 10, .inl d_pieceDual)), (dq19, .inl (cI, 10, .inl d_orderDual)), (dq20, .inl (cJ, 11264, .inr (.inl d_table)))] sz) := by
  unfold m_D_fill at hm
  refine Met.ofW (cc := b_D_fill) (maxL := 9) (ret := none) (by decide) rfl ?_
  intro p e s m args below meth c s₁ B hml hv
  obtain ⟨rfl, hsz, hP, hK, hD0, hN⟩ := hv
  have hx := B.exec
  have hb := B.bytes
  have hr := B.returns
  have hts := atoms_spec (ws := w_D_fill) B.pre
  have hown : s.vm.findClass R_D = some m.cls := findClass_of_methodNamed B.named
  have hlocks := B.notSynchronized
  subst hsz
  have hD := hD0.self (sz := s.heap.size)
  generalize hAe : va_A [(dq, .inr (5, [.int d_thrown, .int d_today, .int d_cut, .int d_aging, .int d_saleFrom, .int d_pieces, .int d_orders, .ref dq8, .ref dq9, .ref dq10, .ref dq11, .ref dq12, .ref dq13, .ref dq14, .ref dq15, .int d_ran, .int d_sum, .ref dq18, .ref dq19, .ref dq20])), (dq8, .inl (cI, 40, .inl d_piece)), (dq9, .inl (cI, 40, .inl d_order)), (dq10, .inl (cI, 10, .inl d_came)), (dq11, .inl (cI, 100, .inl d_worth)), (dq12, .inl (cZ, 10, .inl d_used)), (dq13, .inl (cI, 10, .inl d_usedBy)), (dq14, .inl (cI, 10, .inl d_reservedFor)), (dq15, .inl (cI, 10, .inl d_reservedTo)), (dq18, .inl (cI, 10, .inl d_pieceDual)), (dq19, .inl (cI, 10, .inl d_orderDual)), (dq20, .inl (cJ, 11264, .inr (.inl d_table)))] s.heap.size = A at hD ⊢
  have hA : ∀ q : Nat, s.heap.size ≤ q → A q := fun q h => by rw [← hAe]; exact Or.inr h
  have hS : va_S A s.heap s.heap [] := va_S.rf
  have hk0 := hts (.fieldLink R_D 45 "SurplusMatchModel" "table" "[J") (List.mem_cons_of_mem _ (w0 612 rfl))
  have hk1 : ∀ w ∈ w_D, w ∈ w_D_fill := fun w h => List.mem_cons_of_mem _ (i_D w h)
  have hk2 := hts (.fieldLink R_D 52 "SurplusMatchModel" "pieces" "I") (List.mem_cons_of_mem _ (w0 598 rfl))
  have hk3 := hts (.fieldLink R_D 59 "SurplusMatchModel" "orders" "I") (List.mem_cons_of_mem _ (w0 599 rfl))
  have hk4 := hts (.constantLong R_D 109 16) (List.mem_cons_of_mem _ (w0 722 rfl))
  have hl := lv_entry ([.ref dq, .int x1]) (n := 9) (Nat.le_of_ble_eq_true rfl)
  rw [lg_entry_eq]
  generalize (lg_sl ([.ref dq, .int x1]) ++ List.replicate (9 - (lg_sl ([.ref dq, .int x1])).length) Slot.unset).toArray = ls at hl ⊢
  have hl : lv_has ls 9 [(0, .ref dq), (1, .int x1)] := hl
  refine lv_iconst (v := 0) hx hb d_D_fill_0 (by decide) ?_
  refine lv_istore_n (lv' := [(2, .int 0), (0, .ref dq), (1, .int x1)]) hx hb d_D_fill_1 rfl hl (by decide) rfl (fun ls hl => ?_)
  have key2 : ∀ (K : Int32 → Int32 → (Nat → Int64) → Option (Nat → Int64)) (_ : ∀ (y1a : Int32) (y2a : Int32) (d_tablea : Nat → Int64) (H : Heap) (locs : List Loc) (ls : Array Slot), lv_has ls 9 [(0, .ref dq), (1, .int y1a), (2, .int y2a)] → va_P (dC, dI) classes [(dq, .inr (5, [.int d_thrown, .int d_today, .int d_cut, .int d_aging, .int d_saleFrom, .int d_pieces, .int d_orders, .ref dq8, .ref dq9, .ref dq10, .ref dq11, .ref dq12, .ref dq13, .ref dq14, .ref dq15, .int d_ran, .int d_sum, .ref dq18, .ref dq19, .ref dq20])), (dq8, .inl (cI, 40, .inl d_piece)), (dq9, .inl (cI, 40, .inl d_order)), (dq10, .inl (cI, 10, .inl d_came)), (dq11, .inl (cI, 100, .inl d_worth)), (dq12, .inl (cZ, 10, .inl d_used)), (dq13, .inl (cI, 10, .inl d_usedBy)), (dq14, .inl (cI, 10, .inl d_reservedFor)), (dq15, .inl (cI, 10, .inl d_reservedTo)), (dq18, .inl (cI, 10, .inl d_pieceDual)), (dq19, .inl (cI, 10, .inl d_orderDual)), (dq20, .inl (cJ, 11264, .inr (.inl d_tablea)))] H → va_D A [(dq, .inr (5, [.int d_thrown, .int d_today, .int d_cut, .int d_aging, .int d_saleFrom, .int d_pieces, .int d_orders, .ref dq8, .ref dq9, .ref dq10, .ref dq11, .ref dq12, .ref dq13, .ref dq14, .ref dq15, .int d_ran, .int d_sum, .ref dq18, .ref dq19, .ref dq20])), (dq8, .inl (cI, 40, .inl d_piece)), (dq9, .inl (cI, 40, .inl d_order)), (dq10, .inl (cI, 10, .inl d_came)), (dq11, .inl (cI, 100, .inl d_worth)), (dq12, .inl (cZ, 10, .inl d_used)), (dq13, .inl (cI, 10, .inl d_usedBy)), (dq14, .inl (cI, 10, .inl d_reservedFor)), (dq15, .inl (cI, 10, .inl d_reservedTo)), (dq18, .inl (cI, 10, .inl d_pieceDual)), (dq19, .inl (cI, 10, .inl d_orderDual)), (dq20, .inl (cJ, 11264, .inr (.inl d_tablea)))] → va_S A s.heap H locs → K y1a y2a d_tablea = some res → W p l e (headSpec w_D_fill ({ frames := 3, cells := 0, slots := 0, locals := 67 } : Room)).room s m ([.ref dq, .int x1] : List Value).toArray below meth c H locs 0 0 (MQ below (va_Qv (fun _ : Unit => True) (fun _ t => va_P (dC, dI) classes [(dq, .inr (5, [.int d_thrown, .int d_today, .int d_cut, .int d_aging, .int d_saleFrom, .int d_pieces, .int d_orders, .ref dq8, .ref dq9, .ref dq10, .ref dq11, .ref dq12, .ref dq13, .ref dq14, .ref dq15, .int d_ran, .int d_sum, .ref dq18, .ref dq19, .ref dq20])), (dq8, .inl (cI, 40, .inl d_piece)), (dq9, .inl (cI, 40, .inl d_order)), (dq10, .inl (cI, 10, .inl d_came)), (dq11, .inl (cI, 100, .inl d_worth)), (dq12, .inl (cZ, 10, .inl d_used)), (dq13, .inl (cI, 10, .inl d_usedBy)), (dq14, .inl (cI, 10, .inl d_reservedFor)), (dq15, .inl (cI, 10, .inl d_reservedTo)), (dq18, .inl (cI, 10, .inl d_pieceDual)), (dq19, .inl (cI, 10, .inl d_orderDual)), (dq20, .inl (cJ, 11264, .inr (.inl res)))] t.heap ∧ va_K (dC, dI) classes [(cI, .int), (cZ, .boolean), (cJ, .long)] t ∧ va_D A [(dq, .inr (5, [.int d_thrown, .int d_today, .int d_cut, .int d_aging, .int d_saleFrom, .int d_pieces, .int d_orders, .ref dq8, .ref dq9, .ref dq10, .ref dq11, .ref dq12, .ref dq13, .ref dq14, .ref dq15, .int d_ran, .int d_sum, .ref dq18, .ref dq19, .ref dq20])), (dq8, .inl (cI, 40, .inl d_piece)), (dq9, .inl (cI, 40, .inl d_order)), (dq10, .inl (cI, 10, .inl d_came)), (dq11, .inl (cI, 100, .inl d_worth)), (dq12, .inl (cZ, 10, .inl d_used)), (dq13, .inl (cI, 10, .inl d_usedBy)), (dq14, .inl (cI, 10, .inl d_reservedFor)), (dq15, .inl (cI, 10, .inl d_reservedTo)), (dq18, .inl (cI, 10, .inl d_pieceDual)), (dq19, .inl (cI, 10, .inl d_orderDual)), (dq20, .inl (cJ, 11264, .inr (.inl res)))]) A) ([.ref dq, .int x1] : List Value).toArray s 0 0 A) (F0 m 31 ls [])) (n : Nat) (y1a : Int32) (y2a : Int32) (d_tablea : Nat → Int64) (H : Heap) (locs : List Loc) (ls : Array Slot), lv_has ls 9 [(0, .ref dq), (1, .int y1a), (2, .int y2a)] → va_P (dC, dI) classes [(dq, .inr (5, [.int d_thrown, .int d_today, .int d_cut, .int d_aging, .int d_saleFrom, .int d_pieces, .int d_orders, .ref dq8, .ref dq9, .ref dq10, .ref dq11, .ref dq12, .ref dq13, .ref dq14, .ref dq15, .int d_ran, .int d_sum, .ref dq18, .ref dq19, .ref dq20])), (dq8, .inl (cI, 40, .inl d_piece)), (dq9, .inl (cI, 40, .inl d_order)), (dq10, .inl (cI, 10, .inl d_came)), (dq11, .inl (cI, 100, .inl d_worth)), (dq12, .inl (cZ, 10, .inl d_used)), (dq13, .inl (cI, 10, .inl d_usedBy)), (dq14, .inl (cI, 10, .inl d_reservedFor)), (dq15, .inl (cI, 10, .inl d_reservedTo)), (dq18, .inl (cI, 10, .inl d_pieceDual)), (dq19, .inl (cI, 10, .inl d_orderDual)), (dq20, .inl (cJ, 11264, .inr (.inl d_tablea)))] H → va_D A [(dq, .inr (5, [.int d_thrown, .int d_today, .int d_cut, .int d_aging, .int d_saleFrom, .int d_pieces, .int d_orders, .ref dq8, .ref dq9, .ref dq10, .ref dq11, .ref dq12, .ref dq13, .ref dq14, .ref dq15, .int d_ran, .int d_sum, .ref dq18, .ref dq19, .ref dq20])), (dq8, .inl (cI, 40, .inl d_piece)), (dq9, .inl (cI, 40, .inl d_order)), (dq10, .inl (cI, 10, .inl d_came)), (dq11, .inl (cI, 100, .inl d_worth)), (dq12, .inl (cZ, 10, .inl d_used)), (dq13, .inl (cI, 10, .inl d_usedBy)), (dq14, .inl (cI, 10, .inl d_reservedFor)), (dq15, .inl (cI, 10, .inl d_reservedTo)), (dq18, .inl (cI, 10, .inl d_pieceDual)), (dq19, .inl (cI, 10, .inl d_orderDual)), (dq20, .inl (cJ, 11264, .inr (.inl d_tablea)))] → va_S A s.heap H locs → L_D_fill_2 N d_pieces K n y1a y2a d_tablea = some res → W p l e (headSpec w_D_fill ({ frames := 3, cells := 0, slots := 0, locals := 67 } : Room)).room s m ([.ref dq, .int x1] : List Value).toArray below meth c H locs 0 0 (MQ below (va_Qv (fun _ : Unit => True) (fun _ t => va_P (dC, dI) classes [(dq, .inr (5, [.int d_thrown, .int d_today, .int d_cut, .int d_aging, .int d_saleFrom, .int d_pieces, .int d_orders, .ref dq8, .ref dq9, .ref dq10, .ref dq11, .ref dq12, .ref dq13, .ref dq14, .ref dq15, .int d_ran, .int d_sum, .ref dq18, .ref dq19, .ref dq20])), (dq8, .inl (cI, 40, .inl d_piece)), (dq9, .inl (cI, 40, .inl d_order)), (dq10, .inl (cI, 10, .inl d_came)), (dq11, .inl (cI, 100, .inl d_worth)), (dq12, .inl (cZ, 10, .inl d_used)), (dq13, .inl (cI, 10, .inl d_usedBy)), (dq14, .inl (cI, 10, .inl d_reservedFor)), (dq15, .inl (cI, 10, .inl d_reservedTo)), (dq18, .inl (cI, 10, .inl d_pieceDual)), (dq19, .inl (cI, 10, .inl d_orderDual)), (dq20, .inl (cJ, 11264, .inr (.inl res)))] t.heap ∧ va_K (dC, dI) classes [(cI, .int), (cZ, .boolean), (cJ, .long)] t ∧ va_D A [(dq, .inr (5, [.int d_thrown, .int d_today, .int d_cut, .int d_aging, .int d_saleFrom, .int d_pieces, .int d_orders, .ref dq8, .ref dq9, .ref dq10, .ref dq11, .ref dq12, .ref dq13, .ref dq14, .ref dq15, .int d_ran, .int d_sum, .ref dq18, .ref dq19, .ref dq20])), (dq8, .inl (cI, 40, .inl d_piece)), (dq9, .inl (cI, 40, .inl d_order)), (dq10, .inl (cI, 10, .inl d_came)), (dq11, .inl (cI, 100, .inl d_worth)), (dq12, .inl (cZ, 10, .inl d_used)), (dq13, .inl (cI, 10, .inl d_usedBy)), (dq14, .inl (cI, 10, .inl d_reservedFor)), (dq15, .inl (cI, 10, .inl d_reservedTo)), (dq18, .inl (cI, 10, .inl d_pieceDual)), (dq19, .inl (cI, 10, .inl d_orderDual)), (dq20, .inl (cJ, 11264, .inr (.inl res)))]) A) ([.ref dq, .int x1] : List Value).toArray s 0 0 A) (F0 m 2 ls []) := by
    intro K hK2 n
    induction n with
    | zero => intro y1a y2a d_tablea H locs ls hl hP hD hS hm; exact absurd hm (by simp [L_D_fill_2])
    | succ n ih2 =>
      intro y1a y2a d_tablea H locs ls hl hP hD hS hm
      rw [L_D_fill_2] at hm
      refine lv_iload_n hx hb d_D_fill_2 rfl (lv_at hl 2 rfl) ?_
      refine lv_sipush (v := 1024) hx hb d_D_fill_3 (by decide) ?_
      refine lv_icmp_ge (tgt := 31) hx hb d_D_fill_6 (by decide) (fun c9 => ?_) (fun c9 => ?_)
      · replace hm := if_t c9 hm
        have hl : lv_has ls 9 [(0, .ref dq), (1, .int y1a), (2, .int y2a)] := lv_sub hl [0, 1, 2] rfl
        exact hK2 y1a y2a d_tablea _ _ ls hl hP hD hS hm
      · replace hm := if_f c9 hm
        refine lv_aload_n hx hb d_D_fill_9 rfl (lv_at hl 0 rfl) ?_
        refine va_get (D := (dC, dI)) (ci := 5) (v := .ref dq20) (C := R_D) (T := F_D) (N := 20) hx hb hts hk1 hown hK hP 0 rfl rfl 19 (by decide) hk0 (fun _ h9 => h9) rfl d_D_fill_10 ?_
        refine lv_sipush (v := 1024) hx hb d_D_fill_13 (by decide) ?_
        refine lv_aload_n hx hb d_D_fill_16 rfl (lv_at hl 0 rfl) ?_
        refine va_get (D := (dC, dI)) (ci := 5) (v := .int d_pieces) (C := R_D) (T := F_D) (N := 20) hx hb hts hk1 hown hK hP 0 rfl rfl 5 (by decide) hk2 (fun _ h9 => h9) rfl d_D_fill_17 ?_
        refine lv_imul hx hb d_D_fill_20 ?_
        refine lv_iload_n hx hb d_D_fill_21 rfl (lv_at hl 2 rfl) ?_
        refine lv_iadd hx hb d_D_fill_22 ?_
        refine lv_lconst (v := 0) hx hb d_D_fill_23 rfl ?_
        obtain ⟨h9, hm⟩ := gd hm
        refine va_last hx hb hK hP hD hS 11 2 rfl rfl h9 d_D_fill_24 (fun H locs hP hD hS => ?_)
        have hP : va_P (dC, dI) classes [(dq, .inr (5, [.int d_thrown, .int d_today, .int d_cut, .int d_aging, .int d_saleFrom, .int d_pieces, .int d_orders, .ref dq8, .ref dq9, .ref dq10, .ref dq11, .ref dq12, .ref dq13, .ref dq14, .ref dq15, .int d_ran, .int d_sum, .ref dq18, .ref dq19, .ref dq20])), (dq8, .inl (cI, 40, .inl d_piece)), (dq9, .inl (cI, 40, .inl d_order)), (dq10, .inl (cI, 10, .inl d_came)), (dq11, .inl (cI, 100, .inl d_worth)), (dq12, .inl (cZ, 10, .inl d_used)), (dq13, .inl (cI, 10, .inl d_usedBy)), (dq14, .inl (cI, 10, .inl d_reservedFor)), (dq15, .inl (cI, 10, .inl d_reservedTo)), (dq18, .inl (cI, 10, .inl d_pieceDual)), (dq19, .inl (cI, 10, .inl d_orderDual)), (dq20, .inl (cJ, 11264, .inr (.inl (vp_updL d_tablea ((1024 * d_pieces) + y2a).toNatClampNeg 0))))] H := hP
        have hD : va_D A [(dq, .inr (5, [.int d_thrown, .int d_today, .int d_cut, .int d_aging, .int d_saleFrom, .int d_pieces, .int d_orders, .ref dq8, .ref dq9, .ref dq10, .ref dq11, .ref dq12, .ref dq13, .ref dq14, .ref dq15, .int d_ran, .int d_sum, .ref dq18, .ref dq19, .ref dq20])), (dq8, .inl (cI, 40, .inl d_piece)), (dq9, .inl (cI, 40, .inl d_order)), (dq10, .inl (cI, 10, .inl d_came)), (dq11, .inl (cI, 100, .inl d_worth)), (dq12, .inl (cZ, 10, .inl d_used)), (dq13, .inl (cI, 10, .inl d_usedBy)), (dq14, .inl (cI, 10, .inl d_reservedFor)), (dq15, .inl (cI, 10, .inl d_reservedTo)), (dq18, .inl (cI, 10, .inl d_pieceDual)), (dq19, .inl (cI, 10, .inl d_orderDual)), (dq20, .inl (cJ, 11264, .inr (.inl (vp_updL d_tablea ((1024 * d_pieces) + y2a).toNatClampNeg 0))))] := hD
        refine lv_iinc (v := (y2a + 1)) (lv' := [(2, .int (y2a + 1)), (0, .ref dq), (1, .int y1a)]) hx hb d_D_fill_25 hl (k := 2) rfl rfl (by decide) rfl (fun ls hl => ?_)
        refine lv_goto (tgt := 2) hx hb d_D_fill_28 (by decide) ?_
        have hl : lv_has ls 9 [(0, .ref dq), (1, .int y1a), (2, .int (y2a + 1))] := lv_sub hl [1, 2, 0] rfl
        exact ih2 y1a (y2a + 1) (vp_updL d_tablea ((1024 * d_pieces) + y2a).toNatClampNeg 0) _ _ ls hl hP hD hS hm
  have hl : lv_has ls 9 [(0, .ref dq), (1, .int x1), (2, .int 0)] := lv_sub hl [1, 2, 0] rfl
  refine key2 _ (fun y1a y2a d_tablea H locs ls hl hP hD hS hm => ?_) N x1 0 d_table _ _ ls hl hP hD hS hm
  try dsimp only at hm
  refine lv_aload_n hx hb d_D_fill_31 rfl (lv_at hl 0 rfl) ?_
  refine va_get (D := (dC, dI)) (ci := 5) (v := .int d_pieces) (C := R_D) (T := F_D) (N := 20) hx hb hts hk1 hown hK hP 0 rfl rfl 5 (by decide) hk2 (fun _ h9 => h9) rfl d_D_fill_32 ?_
  refine lv_iconst (v := 1) hx hb d_D_fill_35 (by decide) ?_
  refine lv_isub hx hb d_D_fill_36 ?_
  refine lv_istore_n (lv' := [(2, .int (d_pieces - 1)), (0, .ref dq), (1, .int y1a)]) hx hb d_D_fill_37 rfl hl (by decide) rfl (fun ls hl => ?_)
  have key38 : ∀ (K : Int32 → Int32 → (Nat → Int64) → Option (Nat → Int64)) (_ : ∀ (y1b : Int32) (y2b : Int32) (d_tableb : Nat → Int64) (H : Heap) (locs : List Loc) (ls : Array Slot), lv_has ls 9 [(0, .ref dq), (1, .int y1b), (2, .int y2b)] → va_P (dC, dI) classes [(dq, .inr (5, [.int d_thrown, .int d_today, .int d_cut, .int d_aging, .int d_saleFrom, .int d_pieces, .int d_orders, .ref dq8, .ref dq9, .ref dq10, .ref dq11, .ref dq12, .ref dq13, .ref dq14, .ref dq15, .int d_ran, .int d_sum, .ref dq18, .ref dq19, .ref dq20])), (dq8, .inl (cI, 40, .inl d_piece)), (dq9, .inl (cI, 40, .inl d_order)), (dq10, .inl (cI, 10, .inl d_came)), (dq11, .inl (cI, 100, .inl d_worth)), (dq12, .inl (cZ, 10, .inl d_used)), (dq13, .inl (cI, 10, .inl d_usedBy)), (dq14, .inl (cI, 10, .inl d_reservedFor)), (dq15, .inl (cI, 10, .inl d_reservedTo)), (dq18, .inl (cI, 10, .inl d_pieceDual)), (dq19, .inl (cI, 10, .inl d_orderDual)), (dq20, .inl (cJ, 11264, .inr (.inl d_tableb)))] H → va_D A [(dq, .inr (5, [.int d_thrown, .int d_today, .int d_cut, .int d_aging, .int d_saleFrom, .int d_pieces, .int d_orders, .ref dq8, .ref dq9, .ref dq10, .ref dq11, .ref dq12, .ref dq13, .ref dq14, .ref dq15, .int d_ran, .int d_sum, .ref dq18, .ref dq19, .ref dq20])), (dq8, .inl (cI, 40, .inl d_piece)), (dq9, .inl (cI, 40, .inl d_order)), (dq10, .inl (cI, 10, .inl d_came)), (dq11, .inl (cI, 100, .inl d_worth)), (dq12, .inl (cZ, 10, .inl d_used)), (dq13, .inl (cI, 10, .inl d_usedBy)), (dq14, .inl (cI, 10, .inl d_reservedFor)), (dq15, .inl (cI, 10, .inl d_reservedTo)), (dq18, .inl (cI, 10, .inl d_pieceDual)), (dq19, .inl (cI, 10, .inl d_orderDual)), (dq20, .inl (cJ, 11264, .inr (.inl d_tableb)))] → va_S A s.heap H locs → K y1b y2b d_tableb = some res → W p l e (headSpec w_D_fill ({ frames := 3, cells := 0, slots := 0, locals := 67 } : Room)).room s m ([.ref dq, .int x1] : List Value).toArray below meth c H locs 0 0 (MQ below (va_Qv (fun _ : Unit => True) (fun _ t => va_P (dC, dI) classes [(dq, .inr (5, [.int d_thrown, .int d_today, .int d_cut, .int d_aging, .int d_saleFrom, .int d_pieces, .int d_orders, .ref dq8, .ref dq9, .ref dq10, .ref dq11, .ref dq12, .ref dq13, .ref dq14, .ref dq15, .int d_ran, .int d_sum, .ref dq18, .ref dq19, .ref dq20])), (dq8, .inl (cI, 40, .inl d_piece)), (dq9, .inl (cI, 40, .inl d_order)), (dq10, .inl (cI, 10, .inl d_came)), (dq11, .inl (cI, 100, .inl d_worth)), (dq12, .inl (cZ, 10, .inl d_used)), (dq13, .inl (cI, 10, .inl d_usedBy)), (dq14, .inl (cI, 10, .inl d_reservedFor)), (dq15, .inl (cI, 10, .inl d_reservedTo)), (dq18, .inl (cI, 10, .inl d_pieceDual)), (dq19, .inl (cI, 10, .inl d_orderDual)), (dq20, .inl (cJ, 11264, .inr (.inl res)))] t.heap ∧ va_K (dC, dI) classes [(cI, .int), (cZ, .boolean), (cJ, .long)] t ∧ va_D A [(dq, .inr (5, [.int d_thrown, .int d_today, .int d_cut, .int d_aging, .int d_saleFrom, .int d_pieces, .int d_orders, .ref dq8, .ref dq9, .ref dq10, .ref dq11, .ref dq12, .ref dq13, .ref dq14, .ref dq15, .int d_ran, .int d_sum, .ref dq18, .ref dq19, .ref dq20])), (dq8, .inl (cI, 40, .inl d_piece)), (dq9, .inl (cI, 40, .inl d_order)), (dq10, .inl (cI, 10, .inl d_came)), (dq11, .inl (cI, 100, .inl d_worth)), (dq12, .inl (cZ, 10, .inl d_used)), (dq13, .inl (cI, 10, .inl d_usedBy)), (dq14, .inl (cI, 10, .inl d_reservedFor)), (dq15, .inl (cI, 10, .inl d_reservedTo)), (dq18, .inl (cI, 10, .inl d_pieceDual)), (dq19, .inl (cI, 10, .inl d_orderDual)), (dq20, .inl (cJ, 11264, .inr (.inl res)))]) A) ([.ref dq, .int x1] : List Value).toArray s 0 0 A) (F0 m 225 ls [])) (n : Nat) (y1b : Int32) (y2b : Int32) (d_tableb : Nat → Int64) (H : Heap) (locs : List Loc) (ls : Array Slot), lv_has ls 9 [(0, .ref dq), (1, .int y1b), (2, .int y2b)] → va_P (dC, dI) classes [(dq, .inr (5, [.int d_thrown, .int d_today, .int d_cut, .int d_aging, .int d_saleFrom, .int d_pieces, .int d_orders, .ref dq8, .ref dq9, .ref dq10, .ref dq11, .ref dq12, .ref dq13, .ref dq14, .ref dq15, .int d_ran, .int d_sum, .ref dq18, .ref dq19, .ref dq20])), (dq8, .inl (cI, 40, .inl d_piece)), (dq9, .inl (cI, 40, .inl d_order)), (dq10, .inl (cI, 10, .inl d_came)), (dq11, .inl (cI, 100, .inl d_worth)), (dq12, .inl (cZ, 10, .inl d_used)), (dq13, .inl (cI, 10, .inl d_usedBy)), (dq14, .inl (cI, 10, .inl d_reservedFor)), (dq15, .inl (cI, 10, .inl d_reservedTo)), (dq18, .inl (cI, 10, .inl d_pieceDual)), (dq19, .inl (cI, 10, .inl d_orderDual)), (dq20, .inl (cJ, 11264, .inr (.inl d_tableb)))] H → va_D A [(dq, .inr (5, [.int d_thrown, .int d_today, .int d_cut, .int d_aging, .int d_saleFrom, .int d_pieces, .int d_orders, .ref dq8, .ref dq9, .ref dq10, .ref dq11, .ref dq12, .ref dq13, .ref dq14, .ref dq15, .int d_ran, .int d_sum, .ref dq18, .ref dq19, .ref dq20])), (dq8, .inl (cI, 40, .inl d_piece)), (dq9, .inl (cI, 40, .inl d_order)), (dq10, .inl (cI, 10, .inl d_came)), (dq11, .inl (cI, 100, .inl d_worth)), (dq12, .inl (cZ, 10, .inl d_used)), (dq13, .inl (cI, 10, .inl d_usedBy)), (dq14, .inl (cI, 10, .inl d_reservedFor)), (dq15, .inl (cI, 10, .inl d_reservedTo)), (dq18, .inl (cI, 10, .inl d_pieceDual)), (dq19, .inl (cI, 10, .inl d_orderDual)), (dq20, .inl (cJ, 11264, .inr (.inl d_tableb)))] → va_S A s.heap H locs → L_D_fill_38 N d_today d_cut d_aging d_pieces d_orders d_piece d_order d_came d_worth d_used d_usedBy d_reservedFor d_reservedTo K n y1b y2b d_tableb = some res → W p l e (headSpec w_D_fill ({ frames := 3, cells := 0, slots := 0, locals := 67 } : Room)).room s m ([.ref dq, .int x1] : List Value).toArray below meth c H locs 0 0 (MQ below (va_Qv (fun _ : Unit => True) (fun _ t => va_P (dC, dI) classes [(dq, .inr (5, [.int d_thrown, .int d_today, .int d_cut, .int d_aging, .int d_saleFrom, .int d_pieces, .int d_orders, .ref dq8, .ref dq9, .ref dq10, .ref dq11, .ref dq12, .ref dq13, .ref dq14, .ref dq15, .int d_ran, .int d_sum, .ref dq18, .ref dq19, .ref dq20])), (dq8, .inl (cI, 40, .inl d_piece)), (dq9, .inl (cI, 40, .inl d_order)), (dq10, .inl (cI, 10, .inl d_came)), (dq11, .inl (cI, 100, .inl d_worth)), (dq12, .inl (cZ, 10, .inl d_used)), (dq13, .inl (cI, 10, .inl d_usedBy)), (dq14, .inl (cI, 10, .inl d_reservedFor)), (dq15, .inl (cI, 10, .inl d_reservedTo)), (dq18, .inl (cI, 10, .inl d_pieceDual)), (dq19, .inl (cI, 10, .inl d_orderDual)), (dq20, .inl (cJ, 11264, .inr (.inl res)))] t.heap ∧ va_K (dC, dI) classes [(cI, .int), (cZ, .boolean), (cJ, .long)] t ∧ va_D A [(dq, .inr (5, [.int d_thrown, .int d_today, .int d_cut, .int d_aging, .int d_saleFrom, .int d_pieces, .int d_orders, .ref dq8, .ref dq9, .ref dq10, .ref dq11, .ref dq12, .ref dq13, .ref dq14, .ref dq15, .int d_ran, .int d_sum, .ref dq18, .ref dq19, .ref dq20])), (dq8, .inl (cI, 40, .inl d_piece)), (dq9, .inl (cI, 40, .inl d_order)), (dq10, .inl (cI, 10, .inl d_came)), (dq11, .inl (cI, 100, .inl d_worth)), (dq12, .inl (cZ, 10, .inl d_used)), (dq13, .inl (cI, 10, .inl d_usedBy)), (dq14, .inl (cI, 10, .inl d_reservedFor)), (dq15, .inl (cI, 10, .inl d_reservedTo)), (dq18, .inl (cI, 10, .inl d_pieceDual)), (dq19, .inl (cI, 10, .inl d_orderDual)), (dq20, .inl (cJ, 11264, .inr (.inl res)))]) A) ([.ref dq, .int x1] : List Value).toArray s 0 0 A) (F0 m 38 ls []) := by
    intro K hK38 n
    induction n with
    | zero => intro y1b y2b d_tableb H locs ls hl hP hD hS hm; exact absurd hm (by simp [L_D_fill_38])
    | succ n ih38 =>
      intro y1b y2b d_tableb H locs ls hl hP hD hS hm
      rw [L_D_fill_38] at hm
      refine lv_iload_n hx hb d_D_fill_38 rfl (lv_at hl 2 rfl) ?_
      refine lv_if_lt (tgt := 225) hx hb d_D_fill_39 (by decide) (fun c9 => ?_) (fun c9 => ?_)
      · replace hm := if_t c9 hm
        have hl : lv_has ls 9 [(0, .ref dq), (1, .int y1b), (2, .int y2b)] := lv_sub hl [0, 1, 2] rfl
        exact hK38 y1b y2b d_tableb _ _ ls hl hP hD hS hm
      · replace hm := if_f c9 hm
        refine lv_iconst (v := 0) hx hb d_D_fill_42 (by decide) ?_
        refine lv_istore_n (lv' := [(3, .int 0), (0, .ref dq), (1, .int y1b), (2, .int y2b)]) hx hb d_D_fill_43 rfl hl (by decide) rfl (fun ls hl => ?_)
        have key44 : ∀ (K : Int32 → Int32 → Int32 → (Nat → Int64) → Option (Nat → Int64)) (_ : ∀ (y1c : Int32) (y2c : Int32) (y3c : Int32) (d_tablec : Nat → Int64) (H : Heap) (locs : List Loc) (ls : Array Slot), lv_has ls 9 [(0, .ref dq), (1, .int y1c), (2, .int y2c), (3, .int y3c)] → va_P (dC, dI) classes [(dq, .inr (5, [.int d_thrown, .int d_today, .int d_cut, .int d_aging, .int d_saleFrom, .int d_pieces, .int d_orders, .ref dq8, .ref dq9, .ref dq10, .ref dq11, .ref dq12, .ref dq13, .ref dq14, .ref dq15, .int d_ran, .int d_sum, .ref dq18, .ref dq19, .ref dq20])), (dq8, .inl (cI, 40, .inl d_piece)), (dq9, .inl (cI, 40, .inl d_order)), (dq10, .inl (cI, 10, .inl d_came)), (dq11, .inl (cI, 100, .inl d_worth)), (dq12, .inl (cZ, 10, .inl d_used)), (dq13, .inl (cI, 10, .inl d_usedBy)), (dq14, .inl (cI, 10, .inl d_reservedFor)), (dq15, .inl (cI, 10, .inl d_reservedTo)), (dq18, .inl (cI, 10, .inl d_pieceDual)), (dq19, .inl (cI, 10, .inl d_orderDual)), (dq20, .inl (cJ, 11264, .inr (.inl d_tablec)))] H → va_D A [(dq, .inr (5, [.int d_thrown, .int d_today, .int d_cut, .int d_aging, .int d_saleFrom, .int d_pieces, .int d_orders, .ref dq8, .ref dq9, .ref dq10, .ref dq11, .ref dq12, .ref dq13, .ref dq14, .ref dq15, .int d_ran, .int d_sum, .ref dq18, .ref dq19, .ref dq20])), (dq8, .inl (cI, 40, .inl d_piece)), (dq9, .inl (cI, 40, .inl d_order)), (dq10, .inl (cI, 10, .inl d_came)), (dq11, .inl (cI, 100, .inl d_worth)), (dq12, .inl (cZ, 10, .inl d_used)), (dq13, .inl (cI, 10, .inl d_usedBy)), (dq14, .inl (cI, 10, .inl d_reservedFor)), (dq15, .inl (cI, 10, .inl d_reservedTo)), (dq18, .inl (cI, 10, .inl d_pieceDual)), (dq19, .inl (cI, 10, .inl d_orderDual)), (dq20, .inl (cJ, 11264, .inr (.inl d_tablec)))] → va_S A s.heap H locs → K y1c y2c y3c d_tablec = some res → W p l e (headSpec w_D_fill ({ frames := 3, cells := 0, slots := 0, locals := 67 } : Room)).room s m ([.ref dq, .int x1] : List Value).toArray below meth c H locs 0 0 (MQ below (va_Qv (fun _ : Unit => True) (fun _ t => va_P (dC, dI) classes [(dq, .inr (5, [.int d_thrown, .int d_today, .int d_cut, .int d_aging, .int d_saleFrom, .int d_pieces, .int d_orders, .ref dq8, .ref dq9, .ref dq10, .ref dq11, .ref dq12, .ref dq13, .ref dq14, .ref dq15, .int d_ran, .int d_sum, .ref dq18, .ref dq19, .ref dq20])), (dq8, .inl (cI, 40, .inl d_piece)), (dq9, .inl (cI, 40, .inl d_order)), (dq10, .inl (cI, 10, .inl d_came)), (dq11, .inl (cI, 100, .inl d_worth)), (dq12, .inl (cZ, 10, .inl d_used)), (dq13, .inl (cI, 10, .inl d_usedBy)), (dq14, .inl (cI, 10, .inl d_reservedFor)), (dq15, .inl (cI, 10, .inl d_reservedTo)), (dq18, .inl (cI, 10, .inl d_pieceDual)), (dq19, .inl (cI, 10, .inl d_orderDual)), (dq20, .inl (cJ, 11264, .inr (.inl res)))] t.heap ∧ va_K (dC, dI) classes [(cI, .int), (cZ, .boolean), (cJ, .long)] t ∧ va_D A [(dq, .inr (5, [.int d_thrown, .int d_today, .int d_cut, .int d_aging, .int d_saleFrom, .int d_pieces, .int d_orders, .ref dq8, .ref dq9, .ref dq10, .ref dq11, .ref dq12, .ref dq13, .ref dq14, .ref dq15, .int d_ran, .int d_sum, .ref dq18, .ref dq19, .ref dq20])), (dq8, .inl (cI, 40, .inl d_piece)), (dq9, .inl (cI, 40, .inl d_order)), (dq10, .inl (cI, 10, .inl d_came)), (dq11, .inl (cI, 100, .inl d_worth)), (dq12, .inl (cZ, 10, .inl d_used)), (dq13, .inl (cI, 10, .inl d_usedBy)), (dq14, .inl (cI, 10, .inl d_reservedFor)), (dq15, .inl (cI, 10, .inl d_reservedTo)), (dq18, .inl (cI, 10, .inl d_pieceDual)), (dq19, .inl (cI, 10, .inl d_orderDual)), (dq20, .inl (cJ, 11264, .inr (.inl res)))]) A) ([.ref dq, .int x1] : List Value).toArray s 0 0 A) (F0 m 83 ls [])) (n : Nat) (y1c : Int32) (y2c : Int32) (y3c : Int32) (d_tablec : Nat → Int64) (H : Heap) (locs : List Loc) (ls : Array Slot), lv_has ls 9 [(0, .ref dq), (1, .int y1c), (2, .int y2c), (3, .int y3c)] → va_P (dC, dI) classes [(dq, .inr (5, [.int d_thrown, .int d_today, .int d_cut, .int d_aging, .int d_saleFrom, .int d_pieces, .int d_orders, .ref dq8, .ref dq9, .ref dq10, .ref dq11, .ref dq12, .ref dq13, .ref dq14, .ref dq15, .int d_ran, .int d_sum, .ref dq18, .ref dq19, .ref dq20])), (dq8, .inl (cI, 40, .inl d_piece)), (dq9, .inl (cI, 40, .inl d_order)), (dq10, .inl (cI, 10, .inl d_came)), (dq11, .inl (cI, 100, .inl d_worth)), (dq12, .inl (cZ, 10, .inl d_used)), (dq13, .inl (cI, 10, .inl d_usedBy)), (dq14, .inl (cI, 10, .inl d_reservedFor)), (dq15, .inl (cI, 10, .inl d_reservedTo)), (dq18, .inl (cI, 10, .inl d_pieceDual)), (dq19, .inl (cI, 10, .inl d_orderDual)), (dq20, .inl (cJ, 11264, .inr (.inl d_tablec)))] H → va_D A [(dq, .inr (5, [.int d_thrown, .int d_today, .int d_cut, .int d_aging, .int d_saleFrom, .int d_pieces, .int d_orders, .ref dq8, .ref dq9, .ref dq10, .ref dq11, .ref dq12, .ref dq13, .ref dq14, .ref dq15, .int d_ran, .int d_sum, .ref dq18, .ref dq19, .ref dq20])), (dq8, .inl (cI, 40, .inl d_piece)), (dq9, .inl (cI, 40, .inl d_order)), (dq10, .inl (cI, 10, .inl d_came)), (dq11, .inl (cI, 100, .inl d_worth)), (dq12, .inl (cZ, 10, .inl d_used)), (dq13, .inl (cI, 10, .inl d_usedBy)), (dq14, .inl (cI, 10, .inl d_reservedFor)), (dq15, .inl (cI, 10, .inl d_reservedTo)), (dq18, .inl (cI, 10, .inl d_pieceDual)), (dq19, .inl (cI, 10, .inl d_orderDual)), (dq20, .inl (cJ, 11264, .inr (.inl d_tablec)))] → va_S A s.heap H locs → L_D_fill_44 N  K n y1c y2c y3c d_tablec = some res → W p l e (headSpec w_D_fill ({ frames := 3, cells := 0, slots := 0, locals := 67 } : Room)).room s m ([.ref dq, .int x1] : List Value).toArray below meth c H locs 0 0 (MQ below (va_Qv (fun _ : Unit => True) (fun _ t => va_P (dC, dI) classes [(dq, .inr (5, [.int d_thrown, .int d_today, .int d_cut, .int d_aging, .int d_saleFrom, .int d_pieces, .int d_orders, .ref dq8, .ref dq9, .ref dq10, .ref dq11, .ref dq12, .ref dq13, .ref dq14, .ref dq15, .int d_ran, .int d_sum, .ref dq18, .ref dq19, .ref dq20])), (dq8, .inl (cI, 40, .inl d_piece)), (dq9, .inl (cI, 40, .inl d_order)), (dq10, .inl (cI, 10, .inl d_came)), (dq11, .inl (cI, 100, .inl d_worth)), (dq12, .inl (cZ, 10, .inl d_used)), (dq13, .inl (cI, 10, .inl d_usedBy)), (dq14, .inl (cI, 10, .inl d_reservedFor)), (dq15, .inl (cI, 10, .inl d_reservedTo)), (dq18, .inl (cI, 10, .inl d_pieceDual)), (dq19, .inl (cI, 10, .inl d_orderDual)), (dq20, .inl (cJ, 11264, .inr (.inl res)))] t.heap ∧ va_K (dC, dI) classes [(cI, .int), (cZ, .boolean), (cJ, .long)] t ∧ va_D A [(dq, .inr (5, [.int d_thrown, .int d_today, .int d_cut, .int d_aging, .int d_saleFrom, .int d_pieces, .int d_orders, .ref dq8, .ref dq9, .ref dq10, .ref dq11, .ref dq12, .ref dq13, .ref dq14, .ref dq15, .int d_ran, .int d_sum, .ref dq18, .ref dq19, .ref dq20])), (dq8, .inl (cI, 40, .inl d_piece)), (dq9, .inl (cI, 40, .inl d_order)), (dq10, .inl (cI, 10, .inl d_came)), (dq11, .inl (cI, 100, .inl d_worth)), (dq12, .inl (cZ, 10, .inl d_used)), (dq13, .inl (cI, 10, .inl d_usedBy)), (dq14, .inl (cI, 10, .inl d_reservedFor)), (dq15, .inl (cI, 10, .inl d_reservedTo)), (dq18, .inl (cI, 10, .inl d_pieceDual)), (dq19, .inl (cI, 10, .inl d_orderDual)), (dq20, .inl (cJ, 11264, .inr (.inl res)))]) A) ([.ref dq, .int x1] : List Value).toArray s 0 0 A) (F0 m 44 ls []) := by
          intro K hK44 n
          induction n with
          | zero => intro y1c y2c y3c d_tablec H locs ls hl hP hD hS hm; exact absurd hm (by simp [L_D_fill_44])
          | succ n ih44 =>
            intro y1c y2c y3c d_tablec H locs ls hl hP hD hS hm
            rw [L_D_fill_44] at hm
            refine lv_iload_n hx hb d_D_fill_44 rfl (lv_at hl 3 rfl) ?_
            refine lv_sipush (v := 1024) hx hb d_D_fill_45 (by decide) ?_
            refine lv_icmp_ge (tgt := 83) hx hb d_D_fill_48 (by decide) (fun c9 => ?_) (fun c9 => ?_)
            · replace hm := if_t c9 hm
              have hl : lv_has ls 9 [(0, .ref dq), (1, .int y1c), (2, .int y2c), (3, .int y3c)] := lv_sub hl [0, 1, 2, 3] rfl
              exact hK44 y1c y2c y3c d_tablec _ _ ls hl hP hD hS hm
            · replace hm := if_f c9 hm
              refine lv_aload_n hx hb d_D_fill_51 rfl (lv_at hl 0 rfl) ?_
              refine va_get (D := (dC, dI)) (ci := 5) (v := .ref dq20) (C := R_D) (T := F_D) (N := 20) hx hb hts hk1 hown hK hP 0 rfl rfl 19 (by decide) hk0 (fun _ h9 => h9) rfl d_D_fill_52 ?_
              refine lv_sipush (v := 1024) hx hb d_D_fill_55 (by decide) ?_
              refine lv_iload_n hx hb d_D_fill_58 rfl (lv_at hl 2 rfl) ?_
              refine lv_imul hx hb d_D_fill_59 ?_
              refine lv_iload_n hx hb d_D_fill_60 rfl (lv_at hl 3 rfl) ?_
              refine lv_iadd hx hb d_D_fill_61 ?_
              refine lv_aload_n hx hb d_D_fill_62 rfl (lv_at hl 0 rfl) ?_
              refine va_get (D := (dC, dI)) (ci := 5) (v := .ref dq20) (C := R_D) (T := F_D) (N := 20) hx hb hts hk1 hown hK hP 0 rfl rfl 19 (by decide) hk0 (fun _ h9 => h9) rfl d_D_fill_63 ?_
              refine lv_sipush (v := 1024) hx hb d_D_fill_66 (by decide) ?_
              refine lv_iload_n hx hb d_D_fill_69 rfl (lv_at hl 2 rfl) ?_
              refine lv_iconst (v := 1) hx hb d_D_fill_70 (by decide) ?_
              refine lv_iadd hx hb d_D_fill_71 ?_
              refine lv_imul hx hb d_D_fill_72 ?_
              refine lv_iload_n hx hb d_D_fill_73 rfl (lv_at hl 3 rfl) ?_
              refine lv_iadd hx hb d_D_fill_74 ?_
              obtain ⟨h9, hm⟩ := gd hm
              refine va_lald hx hb hK hP 11 2 rfl rfl h9 d_D_fill_75 ?_
              obtain ⟨h9, hm⟩ := gd hm
              refine va_last hx hb hK hP hD hS 11 2 rfl rfl h9 d_D_fill_76 (fun H locs hP hD hS => ?_)
              have hP : va_P (dC, dI) classes [(dq, .inr (5, [.int d_thrown, .int d_today, .int d_cut, .int d_aging, .int d_saleFrom, .int d_pieces, .int d_orders, .ref dq8, .ref dq9, .ref dq10, .ref dq11, .ref dq12, .ref dq13, .ref dq14, .ref dq15, .int d_ran, .int d_sum, .ref dq18, .ref dq19, .ref dq20])), (dq8, .inl (cI, 40, .inl d_piece)), (dq9, .inl (cI, 40, .inl d_order)), (dq10, .inl (cI, 10, .inl d_came)), (dq11, .inl (cI, 100, .inl d_worth)), (dq12, .inl (cZ, 10, .inl d_used)), (dq13, .inl (cI, 10, .inl d_usedBy)), (dq14, .inl (cI, 10, .inl d_reservedFor)), (dq15, .inl (cI, 10, .inl d_reservedTo)), (dq18, .inl (cI, 10, .inl d_pieceDual)), (dq19, .inl (cI, 10, .inl d_orderDual)), (dq20, .inl (cJ, 11264, .inr (.inl (vp_updL d_tablec ((1024 * y2c) + y3c).toNatClampNeg (d_tablec ((1024 * (y2c + 1)) + y3c).toNatClampNeg)))))] H := hP
              have hD : va_D A [(dq, .inr (5, [.int d_thrown, .int d_today, .int d_cut, .int d_aging, .int d_saleFrom, .int d_pieces, .int d_orders, .ref dq8, .ref dq9, .ref dq10, .ref dq11, .ref dq12, .ref dq13, .ref dq14, .ref dq15, .int d_ran, .int d_sum, .ref dq18, .ref dq19, .ref dq20])), (dq8, .inl (cI, 40, .inl d_piece)), (dq9, .inl (cI, 40, .inl d_order)), (dq10, .inl (cI, 10, .inl d_came)), (dq11, .inl (cI, 100, .inl d_worth)), (dq12, .inl (cZ, 10, .inl d_used)), (dq13, .inl (cI, 10, .inl d_usedBy)), (dq14, .inl (cI, 10, .inl d_reservedFor)), (dq15, .inl (cI, 10, .inl d_reservedTo)), (dq18, .inl (cI, 10, .inl d_pieceDual)), (dq19, .inl (cI, 10, .inl d_orderDual)), (dq20, .inl (cJ, 11264, .inr (.inl (vp_updL d_tablec ((1024 * y2c) + y3c).toNatClampNeg (d_tablec ((1024 * (y2c + 1)) + y3c).toNatClampNeg)))))] := hD
              refine lv_iinc (v := (y3c + 1)) (lv' := [(3, .int (y3c + 1)), (0, .ref dq), (1, .int y1c), (2, .int y2c)]) hx hb d_D_fill_77 hl (k := 3) rfl rfl (by decide) rfl (fun ls hl => ?_)
              refine lv_goto (tgt := 44) hx hb d_D_fill_80 (by decide) ?_
              have hl : lv_has ls 9 [(0, .ref dq), (1, .int y1c), (2, .int y2c), (3, .int (y3c + 1))] := lv_sub hl [1, 2, 3, 0] rfl
              exact ih44 y1c y2c (y3c + 1) (vp_updL d_tablec ((1024 * y2c) + y3c).toNatClampNeg (d_tablec ((1024 * (y2c + 1)) + y3c).toNatClampNeg)) _ _ ls hl hP hD hS hm
        have hl : lv_has ls 9 [(0, .ref dq), (1, .int y1b), (2, .int y2b), (3, .int 0)] := lv_sub hl [1, 2, 3, 0] rfl
        refine key44 _ (fun y1c y2c y3c d_tablec H locs ls hl hP hD hS hm => ?_) N y1b y2b 0 d_tableb _ _ ls hl hP hD hS hm
        try dsimp only at hm
        refine lv_iconst (v := 0) hx hb d_D_fill_83 (by decide) ?_
        refine lv_istore_n (lv' := [(3, .int 0), (0, .ref dq), (1, .int y1c), (2, .int y2c)]) hx hb d_D_fill_84 rfl hl (by decide) rfl (fun ls hl => ?_)
        have key85 : ∀ (K : Int32 → Int32 → Int32 → (Nat → Int64) → Option (Nat → Int64)) (_ : ∀ (y1d : Int32) (y2d : Int32) (y3d : Int32) (d_tabled : Nat → Int64) (H : Heap) (locs : List Loc) (ls : Array Slot), lv_has ls 9 [(0, .ref dq), (1, .int y1d), (2, .int y2d), (3, .int y3d)] → va_P (dC, dI) classes [(dq, .inr (5, [.int d_thrown, .int d_today, .int d_cut, .int d_aging, .int d_saleFrom, .int d_pieces, .int d_orders, .ref dq8, .ref dq9, .ref dq10, .ref dq11, .ref dq12, .ref dq13, .ref dq14, .ref dq15, .int d_ran, .int d_sum, .ref dq18, .ref dq19, .ref dq20])), (dq8, .inl (cI, 40, .inl d_piece)), (dq9, .inl (cI, 40, .inl d_order)), (dq10, .inl (cI, 10, .inl d_came)), (dq11, .inl (cI, 100, .inl d_worth)), (dq12, .inl (cZ, 10, .inl d_used)), (dq13, .inl (cI, 10, .inl d_usedBy)), (dq14, .inl (cI, 10, .inl d_reservedFor)), (dq15, .inl (cI, 10, .inl d_reservedTo)), (dq18, .inl (cI, 10, .inl d_pieceDual)), (dq19, .inl (cI, 10, .inl d_orderDual)), (dq20, .inl (cJ, 11264, .inr (.inl d_tabled)))] H → va_D A [(dq, .inr (5, [.int d_thrown, .int d_today, .int d_cut, .int d_aging, .int d_saleFrom, .int d_pieces, .int d_orders, .ref dq8, .ref dq9, .ref dq10, .ref dq11, .ref dq12, .ref dq13, .ref dq14, .ref dq15, .int d_ran, .int d_sum, .ref dq18, .ref dq19, .ref dq20])), (dq8, .inl (cI, 40, .inl d_piece)), (dq9, .inl (cI, 40, .inl d_order)), (dq10, .inl (cI, 10, .inl d_came)), (dq11, .inl (cI, 100, .inl d_worth)), (dq12, .inl (cZ, 10, .inl d_used)), (dq13, .inl (cI, 10, .inl d_usedBy)), (dq14, .inl (cI, 10, .inl d_reservedFor)), (dq15, .inl (cI, 10, .inl d_reservedTo)), (dq18, .inl (cI, 10, .inl d_pieceDual)), (dq19, .inl (cI, 10, .inl d_orderDual)), (dq20, .inl (cJ, 11264, .inr (.inl d_tabled)))] → va_S A s.heap H locs → K y1d y2d y3d d_tabled = some res → W p l e (headSpec w_D_fill ({ frames := 3, cells := 0, slots := 0, locals := 67 } : Room)).room s m ([.ref dq, .int x1] : List Value).toArray below meth c H locs 0 0 (MQ below (va_Qv (fun _ : Unit => True) (fun _ t => va_P (dC, dI) classes [(dq, .inr (5, [.int d_thrown, .int d_today, .int d_cut, .int d_aging, .int d_saleFrom, .int d_pieces, .int d_orders, .ref dq8, .ref dq9, .ref dq10, .ref dq11, .ref dq12, .ref dq13, .ref dq14, .ref dq15, .int d_ran, .int d_sum, .ref dq18, .ref dq19, .ref dq20])), (dq8, .inl (cI, 40, .inl d_piece)), (dq9, .inl (cI, 40, .inl d_order)), (dq10, .inl (cI, 10, .inl d_came)), (dq11, .inl (cI, 100, .inl d_worth)), (dq12, .inl (cZ, 10, .inl d_used)), (dq13, .inl (cI, 10, .inl d_usedBy)), (dq14, .inl (cI, 10, .inl d_reservedFor)), (dq15, .inl (cI, 10, .inl d_reservedTo)), (dq18, .inl (cI, 10, .inl d_pieceDual)), (dq19, .inl (cI, 10, .inl d_orderDual)), (dq20, .inl (cJ, 11264, .inr (.inl res)))] t.heap ∧ va_K (dC, dI) classes [(cI, .int), (cZ, .boolean), (cJ, .long)] t ∧ va_D A [(dq, .inr (5, [.int d_thrown, .int d_today, .int d_cut, .int d_aging, .int d_saleFrom, .int d_pieces, .int d_orders, .ref dq8, .ref dq9, .ref dq10, .ref dq11, .ref dq12, .ref dq13, .ref dq14, .ref dq15, .int d_ran, .int d_sum, .ref dq18, .ref dq19, .ref dq20])), (dq8, .inl (cI, 40, .inl d_piece)), (dq9, .inl (cI, 40, .inl d_order)), (dq10, .inl (cI, 10, .inl d_came)), (dq11, .inl (cI, 100, .inl d_worth)), (dq12, .inl (cZ, 10, .inl d_used)), (dq13, .inl (cI, 10, .inl d_usedBy)), (dq14, .inl (cI, 10, .inl d_reservedFor)), (dq15, .inl (cI, 10, .inl d_reservedTo)), (dq18, .inl (cI, 10, .inl d_pieceDual)), (dq19, .inl (cI, 10, .inl d_orderDual)), (dq20, .inl (cJ, 11264, .inr (.inl res)))]) A) ([.ref dq, .int x1] : List Value).toArray s 0 0 A) (F0 m 219 ls [])) (n : Nat) (y1d : Int32) (y2d : Int32) (y3d : Int32) (d_tabled : Nat → Int64) (H : Heap) (locs : List Loc) (ls : Array Slot), lv_has ls 9 [(0, .ref dq), (1, .int y1d), (2, .int y2d), (3, .int y3d)] → va_P (dC, dI) classes [(dq, .inr (5, [.int d_thrown, .int d_today, .int d_cut, .int d_aging, .int d_saleFrom, .int d_pieces, .int d_orders, .ref dq8, .ref dq9, .ref dq10, .ref dq11, .ref dq12, .ref dq13, .ref dq14, .ref dq15, .int d_ran, .int d_sum, .ref dq18, .ref dq19, .ref dq20])), (dq8, .inl (cI, 40, .inl d_piece)), (dq9, .inl (cI, 40, .inl d_order)), (dq10, .inl (cI, 10, .inl d_came)), (dq11, .inl (cI, 100, .inl d_worth)), (dq12, .inl (cZ, 10, .inl d_used)), (dq13, .inl (cI, 10, .inl d_usedBy)), (dq14, .inl (cI, 10, .inl d_reservedFor)), (dq15, .inl (cI, 10, .inl d_reservedTo)), (dq18, .inl (cI, 10, .inl d_pieceDual)), (dq19, .inl (cI, 10, .inl d_orderDual)), (dq20, .inl (cJ, 11264, .inr (.inl d_tabled)))] H → va_D A [(dq, .inr (5, [.int d_thrown, .int d_today, .int d_cut, .int d_aging, .int d_saleFrom, .int d_pieces, .int d_orders, .ref dq8, .ref dq9, .ref dq10, .ref dq11, .ref dq12, .ref dq13, .ref dq14, .ref dq15, .int d_ran, .int d_sum, .ref dq18, .ref dq19, .ref dq20])), (dq8, .inl (cI, 40, .inl d_piece)), (dq9, .inl (cI, 40, .inl d_order)), (dq10, .inl (cI, 10, .inl d_came)), (dq11, .inl (cI, 100, .inl d_worth)), (dq12, .inl (cZ, 10, .inl d_used)), (dq13, .inl (cI, 10, .inl d_usedBy)), (dq14, .inl (cI, 10, .inl d_reservedFor)), (dq15, .inl (cI, 10, .inl d_reservedTo)), (dq18, .inl (cI, 10, .inl d_pieceDual)), (dq19, .inl (cI, 10, .inl d_orderDual)), (dq20, .inl (cJ, 11264, .inr (.inl d_tabled)))] → va_S A s.heap H locs → L_D_fill_85 N d_today d_cut d_aging d_pieces d_orders d_piece d_order d_came d_worth d_used d_usedBy d_reservedFor d_reservedTo K n y1d y2d y3d d_tabled = some res → W p l e (headSpec w_D_fill ({ frames := 3, cells := 0, slots := 0, locals := 67 } : Room)).room s m ([.ref dq, .int x1] : List Value).toArray below meth c H locs 0 0 (MQ below (va_Qv (fun _ : Unit => True) (fun _ t => va_P (dC, dI) classes [(dq, .inr (5, [.int d_thrown, .int d_today, .int d_cut, .int d_aging, .int d_saleFrom, .int d_pieces, .int d_orders, .ref dq8, .ref dq9, .ref dq10, .ref dq11, .ref dq12, .ref dq13, .ref dq14, .ref dq15, .int d_ran, .int d_sum, .ref dq18, .ref dq19, .ref dq20])), (dq8, .inl (cI, 40, .inl d_piece)), (dq9, .inl (cI, 40, .inl d_order)), (dq10, .inl (cI, 10, .inl d_came)), (dq11, .inl (cI, 100, .inl d_worth)), (dq12, .inl (cZ, 10, .inl d_used)), (dq13, .inl (cI, 10, .inl d_usedBy)), (dq14, .inl (cI, 10, .inl d_reservedFor)), (dq15, .inl (cI, 10, .inl d_reservedTo)), (dq18, .inl (cI, 10, .inl d_pieceDual)), (dq19, .inl (cI, 10, .inl d_orderDual)), (dq20, .inl (cJ, 11264, .inr (.inl res)))] t.heap ∧ va_K (dC, dI) classes [(cI, .int), (cZ, .boolean), (cJ, .long)] t ∧ va_D A [(dq, .inr (5, [.int d_thrown, .int d_today, .int d_cut, .int d_aging, .int d_saleFrom, .int d_pieces, .int d_orders, .ref dq8, .ref dq9, .ref dq10, .ref dq11, .ref dq12, .ref dq13, .ref dq14, .ref dq15, .int d_ran, .int d_sum, .ref dq18, .ref dq19, .ref dq20])), (dq8, .inl (cI, 40, .inl d_piece)), (dq9, .inl (cI, 40, .inl d_order)), (dq10, .inl (cI, 10, .inl d_came)), (dq11, .inl (cI, 100, .inl d_worth)), (dq12, .inl (cZ, 10, .inl d_used)), (dq13, .inl (cI, 10, .inl d_usedBy)), (dq14, .inl (cI, 10, .inl d_reservedFor)), (dq15, .inl (cI, 10, .inl d_reservedTo)), (dq18, .inl (cI, 10, .inl d_pieceDual)), (dq19, .inl (cI, 10, .inl d_orderDual)), (dq20, .inl (cJ, 11264, .inr (.inl res)))]) A) ([.ref dq, .int x1] : List Value).toArray s 0 0 A) (F0 m 85 ls []) := by
          intro K hK85 n
          induction n with
          | zero => intro y1d y2d y3d d_tabled H locs ls hl hP hD hS hm; exact absurd hm (by simp [L_D_fill_85])
          | succ n ih85 =>
            intro y1d y2d y3d d_tabled H locs ls hl hP hD hS hm
            rw [L_D_fill_85] at hm
            refine lv_iload_n hx hb d_D_fill_85 rfl (lv_at hl 3 rfl) ?_
            refine lv_aload_n hx hb d_D_fill_86 rfl (lv_at hl 0 rfl) ?_
            refine va_get (D := (dC, dI)) (ci := 5) (v := .int d_orders) (C := R_D) (T := F_D) (N := 20) hx hb hts hk1 hown hK hP 0 rfl rfl 6 (by decide) hk3 (fun _ h9 => h9) rfl d_D_fill_87 ?_
            refine lv_icmp_ge (tgt := 219) hx hb d_D_fill_90 (by decide) (fun c9 => ?_) (fun c9 => ?_)
            · replace hm := if_t c9 hm
              have hl : lv_has ls 9 [(0, .ref dq), (1, .int y1d), (2, .int y2d), (3, .int y3d)] := lv_sub hl [0, 1, 2, 3] rfl
              exact hK85 y1d y2d y3d d_tabled _ _ ls hl hP hD hS hm
            · replace hm := if_f c9 hm
              refine lv_iload_n hx hb d_D_fill_93 rfl (lv_at hl 3 rfl) ?_
              refine lv_iload_n hx hb d_D_fill_94 rfl (lv_at hl 1 rfl) ?_
              refine lv_icmp_eq (tgt := 213) hx hb d_D_fill_95 (by decide) (fun c9 => ?_) (fun c9 => ?_)
              · replace hm := if_t c9 hm
                refine lv_iinc (v := (y3d + 1)) (lv' := [(3, .int (y3d + 1)), (0, .ref dq), (1, .int y1d), (2, .int y2d)]) hx hb d_D_fill_213 hl (k := 3) rfl rfl (by decide) rfl (fun ls hl => ?_)
                refine lv_goto (tgt := 85) hx hb d_D_fill_216 (by decide) ?_
                have hl : lv_has ls 9 [(0, .ref dq), (1, .int y1d), (2, .int y2d), (3, .int (y3d + 1))] := lv_sub hl [1, 2, 3, 0] rfl
                exact ih85 y1d y2d (y3d + 1) d_tabled _ _ ls hl hP hD hS hm
              · replace hm := if_f c9 hm
                refine lv_aload_n hx hb d_D_fill_98 rfl (lv_at hl 0 rfl) ?_
                refine lv_iload_n hx hb d_D_fill_99 rfl (lv_at hl 2 rfl) ?_
                refine lv_iload_n hx hb d_D_fill_100 rfl (lv_at hl 3 rfl) ?_
                obtain ⟨r1, hc, hm⟩ := bd hm
                try dsimp only at hm
                refine vp_callSi (W.runV (As := [.int y2d, .int y3d]) (rest := []) ⟨hx, hb, hml, hown, hts⟩ (c_D_can l dC dI cI cZ cJ dq dq8 dq9 dq10 dq11 dq12 dq13 dq14 dq15 dq18 dq19 dq20 d_thrown d_today d_cut d_aging d_saleFrom d_pieces d_orders d_piece d_order d_came d_worth d_used d_usedBy d_reservedFor d_reservedTo d_ran d_sum d_pieceDual d_orderDual d_tabled y2d y3d N r1 hc) (cwV 2 hts (gV (w0 713 rfl) (w0 714 rfl) (w0 24 rfl) (w0 33 rfl) (w0 715 rfl)) rfl rfl rfl q_D_can ⟨Nat.le_of_ble_eq_true rfl, Nat.le_of_ble_eq_true rfl⟩) (ro_preV [0, 1, 2, 3, 4, 5, 6, 7, 8, 9, 10, 11] rfl hK hP hN 5 0 (R_D, F_D, 20) rfl rfl) rfl rfl hl.1 rfl (lv_room (Nat.le_of_ble_eq_true rfl)) d_D_fill_101 ⟨Nat.le_of_ble_eq_true rfl, Nat.le_of_ble_eq_true rfl⟩) (fun r9 hr9 => ?_)
                subst hr9
                refine lv_if_ne (tgt := 110) hx hb d_D_fill_104 (by decide) (fun c9 => ?_) (fun c9 => ?_)
                · replace hm := if_f c9 hm
                  refine lv_ldc2 (v := 16) hx hb hown hk4 d_D_fill_110 ?_
                  refine lv_aload_n hx hb d_D_fill_113 rfl (lv_at hl 0 rfl) ?_
                  refine lv_iload_n hx hb d_D_fill_114 rfl (lv_at hl 2 rfl) ?_
                  refine lv_iload_n hx hb d_D_fill_115 rfl (lv_at hl 3 rfl) ?_
                  obtain ⟨r2, hc, hm⟩ := bd hm
                  try dsimp only at hm
                  refine vp_callSi (W.runV (As := [.int y2d, .int y3d]) (rest := [.long 16]) ⟨hx, hb, hml, hown, hts⟩ (c_D_netOf l dC dI cI cZ cJ dq dq8 dq9 dq10 dq11 dq12 dq13 dq14 dq15 dq18 dq19 dq20 d_thrown d_today d_cut d_aging d_saleFrom d_pieces d_orders d_piece d_order d_came d_worth d_used d_usedBy d_reservedFor d_reservedTo d_ran d_sum d_pieceDual d_orderDual d_tabled y2d y3d N r2 hc) (cwV 2 hts (gV (w0 703 rfl) (w0 704 rfl) (w0 22 rfl) (w0 33 rfl) (w0 705 rfl)) rfl rfl rfl q_D_netOf ⟨Nat.le_of_ble_eq_true rfl, Nat.le_of_ble_eq_true rfl⟩) (ro_preV [0, 1, 2, 3, 4, 5, 6, 7, 8, 9, 10, 11] rfl hK hP hN 5 0 (R_D, F_D, 20) rfl rfl) rfl rfl hl.1 rfl (lv_room (Nat.le_of_ble_eq_true rfl)) d_D_fill_116 ⟨Nat.le_of_ble_eq_true rfl, Nat.le_of_ble_eq_true rfl⟩) (fun r9 hr9 => ?_)
                  subst hr9
                  refine lv_i2l (v := r2.toInt64) hx hb d_D_fill_119 rfl ?_
                  refine lv_lmul hx hb d_D_fill_120 ?_
                  refine lv_lconst (v := 1) hx hb d_D_fill_121 rfl ?_
                  refine lv_ladd hx hb d_D_fill_122 ?_
                  refine lv_lstore (lv' := [(4, .long ((16 * r2.toInt64) + 1)), (0, .ref dq), (1, .int y1d), (2, .int y2d), (3, .int y3d)]) hx hb d_D_fill_123 hl (by decide) rfl (fun ls hl => ?_)
                  refine lv_iconst (v := 0) hx hb d_D_fill_125 (by decide) ?_
                  refine lv_istore (lv' := [(6, .int 0), (4, .long ((16 * r2.toInt64) + 1)), (0, .ref dq), (1, .int y1d), (2, .int y2d), (3, .int y3d)]) hx hb d_D_fill_126 hl (by decide) rfl (fun ls hl => ?_)
                  have key128 : ∀ (K : Int32 → Int32 → Int32 → Int64 → Int32 → (Nat → Int64) → Option (Nat → Int64)) (_ : ∀ (y1e : Int32) (y2e : Int32) (y3e : Int32) (y4e : Int64) (y6e : Int32) (d_tablee : Nat → Int64) (H : Heap) (locs : List Loc) (ls : Array Slot), lv_has ls 9 [(0, .ref dq), (1, .int y1e), (2, .int y2e), (3, .int y3e), (4, .long y4e), (6, .int y6e)] → va_P (dC, dI) classes [(dq, .inr (5, [.int d_thrown, .int d_today, .int d_cut, .int d_aging, .int d_saleFrom, .int d_pieces, .int d_orders, .ref dq8, .ref dq9, .ref dq10, .ref dq11, .ref dq12, .ref dq13, .ref dq14, .ref dq15, .int d_ran, .int d_sum, .ref dq18, .ref dq19, .ref dq20])), (dq8, .inl (cI, 40, .inl d_piece)), (dq9, .inl (cI, 40, .inl d_order)), (dq10, .inl (cI, 10, .inl d_came)), (dq11, .inl (cI, 100, .inl d_worth)), (dq12, .inl (cZ, 10, .inl d_used)), (dq13, .inl (cI, 10, .inl d_usedBy)), (dq14, .inl (cI, 10, .inl d_reservedFor)), (dq15, .inl (cI, 10, .inl d_reservedTo)), (dq18, .inl (cI, 10, .inl d_pieceDual)), (dq19, .inl (cI, 10, .inl d_orderDual)), (dq20, .inl (cJ, 11264, .inr (.inl d_tablee)))] H → va_D A [(dq, .inr (5, [.int d_thrown, .int d_today, .int d_cut, .int d_aging, .int d_saleFrom, .int d_pieces, .int d_orders, .ref dq8, .ref dq9, .ref dq10, .ref dq11, .ref dq12, .ref dq13, .ref dq14, .ref dq15, .int d_ran, .int d_sum, .ref dq18, .ref dq19, .ref dq20])), (dq8, .inl (cI, 40, .inl d_piece)), (dq9, .inl (cI, 40, .inl d_order)), (dq10, .inl (cI, 10, .inl d_came)), (dq11, .inl (cI, 100, .inl d_worth)), (dq12, .inl (cZ, 10, .inl d_used)), (dq13, .inl (cI, 10, .inl d_usedBy)), (dq14, .inl (cI, 10, .inl d_reservedFor)), (dq15, .inl (cI, 10, .inl d_reservedTo)), (dq18, .inl (cI, 10, .inl d_pieceDual)), (dq19, .inl (cI, 10, .inl d_orderDual)), (dq20, .inl (cJ, 11264, .inr (.inl d_tablee)))] → va_S A s.heap H locs → K y1e y2e y3e y4e y6e d_tablee = some res → W p l e (headSpec w_D_fill ({ frames := 3, cells := 0, slots := 0, locals := 67 } : Room)).room s m ([.ref dq, .int x1] : List Value).toArray below meth c H locs 0 0 (MQ below (va_Qv (fun _ : Unit => True) (fun _ t => va_P (dC, dI) classes [(dq, .inr (5, [.int d_thrown, .int d_today, .int d_cut, .int d_aging, .int d_saleFrom, .int d_pieces, .int d_orders, .ref dq8, .ref dq9, .ref dq10, .ref dq11, .ref dq12, .ref dq13, .ref dq14, .ref dq15, .int d_ran, .int d_sum, .ref dq18, .ref dq19, .ref dq20])), (dq8, .inl (cI, 40, .inl d_piece)), (dq9, .inl (cI, 40, .inl d_order)), (dq10, .inl (cI, 10, .inl d_came)), (dq11, .inl (cI, 100, .inl d_worth)), (dq12, .inl (cZ, 10, .inl d_used)), (dq13, .inl (cI, 10, .inl d_usedBy)), (dq14, .inl (cI, 10, .inl d_reservedFor)), (dq15, .inl (cI, 10, .inl d_reservedTo)), (dq18, .inl (cI, 10, .inl d_pieceDual)), (dq19, .inl (cI, 10, .inl d_orderDual)), (dq20, .inl (cJ, 11264, .inr (.inl res)))] t.heap ∧ va_K (dC, dI) classes [(cI, .int), (cZ, .boolean), (cJ, .long)] t ∧ va_D A [(dq, .inr (5, [.int d_thrown, .int d_today, .int d_cut, .int d_aging, .int d_saleFrom, .int d_pieces, .int d_orders, .ref dq8, .ref dq9, .ref dq10, .ref dq11, .ref dq12, .ref dq13, .ref dq14, .ref dq15, .int d_ran, .int d_sum, .ref dq18, .ref dq19, .ref dq20])), (dq8, .inl (cI, 40, .inl d_piece)), (dq9, .inl (cI, 40, .inl d_order)), (dq10, .inl (cI, 10, .inl d_came)), (dq11, .inl (cI, 100, .inl d_worth)), (dq12, .inl (cZ, 10, .inl d_used)), (dq13, .inl (cI, 10, .inl d_usedBy)), (dq14, .inl (cI, 10, .inl d_reservedFor)), (dq15, .inl (cI, 10, .inl d_reservedTo)), (dq18, .inl (cI, 10, .inl d_pieceDual)), (dq19, .inl (cI, 10, .inl d_orderDual)), (dq20, .inl (cJ, 11264, .inr (.inl res)))]) A) ([.ref dq, .int x1] : List Value).toArray s 0 0 A) (F0 m 213 ls [])) (n : Nat) (y1e : Int32) (y2e : Int32) (y3e : Int32) (y4e : Int64) (y6e : Int32) (d_tablee : Nat → Int64) (H : Heap) (locs : List Loc) (ls : Array Slot), lv_has ls 9 [(0, .ref dq), (1, .int y1e), (2, .int y2e), (3, .int y3e), (4, .long y4e), (6, .int y6e)] → va_P (dC, dI) classes [(dq, .inr (5, [.int d_thrown, .int d_today, .int d_cut, .int d_aging, .int d_saleFrom, .int d_pieces, .int d_orders, .ref dq8, .ref dq9, .ref dq10, .ref dq11, .ref dq12, .ref dq13, .ref dq14, .ref dq15, .int d_ran, .int d_sum, .ref dq18, .ref dq19, .ref dq20])), (dq8, .inl (cI, 40, .inl d_piece)), (dq9, .inl (cI, 40, .inl d_order)), (dq10, .inl (cI, 10, .inl d_came)), (dq11, .inl (cI, 100, .inl d_worth)), (dq12, .inl (cZ, 10, .inl d_used)), (dq13, .inl (cI, 10, .inl d_usedBy)), (dq14, .inl (cI, 10, .inl d_reservedFor)), (dq15, .inl (cI, 10, .inl d_reservedTo)), (dq18, .inl (cI, 10, .inl d_pieceDual)), (dq19, .inl (cI, 10, .inl d_orderDual)), (dq20, .inl (cJ, 11264, .inr (.inl d_tablee)))] H → va_D A [(dq, .inr (5, [.int d_thrown, .int d_today, .int d_cut, .int d_aging, .int d_saleFrom, .int d_pieces, .int d_orders, .ref dq8, .ref dq9, .ref dq10, .ref dq11, .ref dq12, .ref dq13, .ref dq14, .ref dq15, .int d_ran, .int d_sum, .ref dq18, .ref dq19, .ref dq20])), (dq8, .inl (cI, 40, .inl d_piece)), (dq9, .inl (cI, 40, .inl d_order)), (dq10, .inl (cI, 10, .inl d_came)), (dq11, .inl (cI, 100, .inl d_worth)), (dq12, .inl (cZ, 10, .inl d_used)), (dq13, .inl (cI, 10, .inl d_usedBy)), (dq14, .inl (cI, 10, .inl d_reservedFor)), (dq15, .inl (cI, 10, .inl d_reservedTo)), (dq18, .inl (cI, 10, .inl d_pieceDual)), (dq19, .inl (cI, 10, .inl d_orderDual)), (dq20, .inl (cJ, 11264, .inr (.inl d_tablee)))] → va_S A s.heap H locs → L_D_fill_128 N  K n y1e y2e y3e y4e y6e d_tablee = some res → W p l e (headSpec w_D_fill ({ frames := 3, cells := 0, slots := 0, locals := 67 } : Room)).room s m ([.ref dq, .int x1] : List Value).toArray below meth c H locs 0 0 (MQ below (va_Qv (fun _ : Unit => True) (fun _ t => va_P (dC, dI) classes [(dq, .inr (5, [.int d_thrown, .int d_today, .int d_cut, .int d_aging, .int d_saleFrom, .int d_pieces, .int d_orders, .ref dq8, .ref dq9, .ref dq10, .ref dq11, .ref dq12, .ref dq13, .ref dq14, .ref dq15, .int d_ran, .int d_sum, .ref dq18, .ref dq19, .ref dq20])), (dq8, .inl (cI, 40, .inl d_piece)), (dq9, .inl (cI, 40, .inl d_order)), (dq10, .inl (cI, 10, .inl d_came)), (dq11, .inl (cI, 100, .inl d_worth)), (dq12, .inl (cZ, 10, .inl d_used)), (dq13, .inl (cI, 10, .inl d_usedBy)), (dq14, .inl (cI, 10, .inl d_reservedFor)), (dq15, .inl (cI, 10, .inl d_reservedTo)), (dq18, .inl (cI, 10, .inl d_pieceDual)), (dq19, .inl (cI, 10, .inl d_orderDual)), (dq20, .inl (cJ, 11264, .inr (.inl res)))] t.heap ∧ va_K (dC, dI) classes [(cI, .int), (cZ, .boolean), (cJ, .long)] t ∧ va_D A [(dq, .inr (5, [.int d_thrown, .int d_today, .int d_cut, .int d_aging, .int d_saleFrom, .int d_pieces, .int d_orders, .ref dq8, .ref dq9, .ref dq10, .ref dq11, .ref dq12, .ref dq13, .ref dq14, .ref dq15, .int d_ran, .int d_sum, .ref dq18, .ref dq19, .ref dq20])), (dq8, .inl (cI, 40, .inl d_piece)), (dq9, .inl (cI, 40, .inl d_order)), (dq10, .inl (cI, 10, .inl d_came)), (dq11, .inl (cI, 100, .inl d_worth)), (dq12, .inl (cZ, 10, .inl d_used)), (dq13, .inl (cI, 10, .inl d_usedBy)), (dq14, .inl (cI, 10, .inl d_reservedFor)), (dq15, .inl (cI, 10, .inl d_reservedTo)), (dq18, .inl (cI, 10, .inl d_pieceDual)), (dq19, .inl (cI, 10, .inl d_orderDual)), (dq20, .inl (cJ, 11264, .inr (.inl res)))]) A) ([.ref dq, .int x1] : List Value).toArray s 0 0 A) (F0 m 128 ls []) := by
                    intro K hK128 n
                    induction n with
                    | zero => intro y1e y2e y3e y4e y6e d_tablee H locs ls hl hP hD hS hm; exact absurd hm (by simp [L_D_fill_128])
                    | succ n ih128 =>
                      intro y1e y2e y3e y4e y6e d_tablee H locs ls hl hP hD hS hm
                      rw [L_D_fill_128] at hm
                      refine lv_iload hx hb d_D_fill_128 (lv_at hl 5 rfl) ?_
                      refine lv_sipush (v := 1024) hx hb d_D_fill_130 (by decide) ?_
                      refine lv_icmp_ge (tgt := 213) hx hb d_D_fill_133 (by decide) (fun c9 => ?_) (fun c9 => ?_)
                      · replace hm := if_t c9 hm
                        have hl : lv_has ls 9 [(0, .ref dq), (1, .int y1e), (2, .int y2e), (3, .int y3e), (4, .long y4e), (6, .int y6e)] := lv_sub hl [0, 1, 2, 3, 4, 5] rfl
                        exact hK128 y1e y2e y3e y4e y6e d_tablee _ _ ls hl hP hD hS hm
                      · replace hm := if_f c9 hm
                        refine lv_iload hx hb d_D_fill_136 (lv_at hl 5 rfl) ?_
                        refine lv_iload_n hx hb d_D_fill_138 rfl (lv_at hl 3 rfl) ?_
                        refine lv_ishr hx hb d_D_fill_139 ?_
                        refine lv_iconst (v := 1) hx hb d_D_fill_140 (by decide) ?_
                        refine lv_iand hx hb d_D_fill_141 ?_
                        refine lv_iconst (v := 1) hx hb d_D_fill_142 (by decide) ?_
                        refine lv_icmp_ne (tgt := 149) hx hb d_D_fill_143 (by decide) (fun c9 => ?_) (fun c9 => ?_)
                        · replace hm := if_f c9 hm
                          refine lv_aload_n hx hb d_D_fill_149 rfl (lv_at hl 0 rfl) ?_
                          refine va_get (D := (dC, dI)) (ci := 5) (v := .ref dq20) (C := R_D) (T := F_D) (N := 20) hx hb hts hk1 hown hK hP 0 rfl rfl 19 (by decide) hk0 (fun _ h9 => h9) rfl d_D_fill_150 ?_
                          refine lv_sipush (v := 1024) hx hb d_D_fill_153 (by decide) ?_
                          refine lv_iload_n hx hb d_D_fill_156 rfl (lv_at hl 2 rfl) ?_
                          refine lv_iconst (v := 1) hx hb d_D_fill_157 (by decide) ?_
                          refine lv_iadd hx hb d_D_fill_158 ?_
                          refine lv_imul hx hb d_D_fill_159 ?_
                          refine lv_iload hx hb d_D_fill_160 (lv_at hl 5 rfl) ?_
                          refine lv_iconst (v := 1) hx hb d_D_fill_162 (by decide) ?_
                          refine lv_iload_n hx hb d_D_fill_163 rfl (lv_at hl 3 rfl) ?_
                          refine lv_ishl hx hb d_D_fill_164 ?_
                          refine lv_ior hx hb d_D_fill_165 ?_
                          refine lv_iadd hx hb d_D_fill_166 ?_
                          obtain ⟨h9, hm⟩ := gd hm
                          refine va_lald hx hb hK hP 11 2 rfl rfl h9 d_D_fill_167 ?_
                          refine lv_lload hx hb d_D_fill_168 (lv_at hl 4 rfl) ?_
                          refine lv_ladd hx hb d_D_fill_170 ?_
                          refine lv_lstore (lv' := [(7, .long ((d_tablee ((1024 * (y2e + 1)) + (y6e ||| ((1 : Int32) <<< (y3e &&& 31)))).toNatClampNeg) + y4e)), (0, .ref dq), (1, .int y1e), (2, .int y2e), (3, .int y3e), (4, .long y4e), (6, .int y6e)]) hx hb d_D_fill_171 hl (by decide) rfl (fun ls hl => ?_)
                          refine lv_lload hx hb d_D_fill_173 (lv_at hl 0 rfl) ?_
                          refine lv_aload_n hx hb d_D_fill_175 rfl (lv_at hl 1 rfl) ?_
                          refine va_get (D := (dC, dI)) (ci := 5) (v := .ref dq20) (C := R_D) (T := F_D) (N := 20) hx hb hts hk1 hown hK hP 0 rfl rfl 19 (by decide) hk0 (fun _ h9 => h9) rfl d_D_fill_176 ?_
                          refine lv_sipush (v := 1024) hx hb d_D_fill_179 (by decide) ?_
                          refine lv_iload_n hx hb d_D_fill_182 rfl (lv_at hl 3 rfl) ?_
                          refine lv_imul hx hb d_D_fill_183 ?_
                          refine lv_iload hx hb d_D_fill_184 (lv_at hl 6 rfl) ?_
                          refine lv_iadd hx hb d_D_fill_186 ?_
                          obtain ⟨h9, hm⟩ := gd hm
                          refine va_lald hx hb hK hP 11 2 rfl rfl h9 d_D_fill_187 ?_
                          refine W.lcmp hx hb d_D_fill_188 ?_
                          refine lv_if_le (tgt := 207) hx hb d_D_fill_189 (by decide) (fun c9 => ?_) (fun c9 => ?_)
                          · replace hm := if_t c9 hm
                            refine lv_iinc (v := (y6e + 1)) (lv' := [(6, .int (y6e + 1)), (7, .long ((d_tablee ((1024 * (y2e + 1)) + (y6e ||| ((1 : Int32) <<< (y3e &&& 31)))).toNatClampNeg) + y4e)), (0, .ref dq), (1, .int y1e), (2, .int y2e), (3, .int y3e), (4, .long y4e)]) hx hb d_D_fill_207 hl (k := 6) rfl rfl (by decide) rfl (fun ls hl => ?_)
                            refine lv_goto (tgt := 128) hx hb d_D_fill_210 (by decide) ?_
                            have hl : lv_has ls 9 [(0, .ref dq), (1, .int y1e), (2, .int y2e), (3, .int y3e), (4, .long y4e), (6, .int (y6e + 1))] := lv_sub hl [2, 3, 4, 5, 6, 0] rfl
                            exact ih128 y1e y2e y3e y4e (y6e + 1) d_tablee _ _ ls hl hP hD hS hm
                          · replace hm := if_f c9 hm
                            refine lv_aload_n hx hb d_D_fill_192 rfl (lv_at hl 1 rfl) ?_
                            refine va_get (D := (dC, dI)) (ci := 5) (v := .ref dq20) (C := R_D) (T := F_D) (N := 20) hx hb hts hk1 hown hK hP 0 rfl rfl 19 (by decide) hk0 (fun _ h9 => h9) rfl d_D_fill_193 ?_
                            refine lv_sipush (v := 1024) hx hb d_D_fill_196 (by decide) ?_
                            refine lv_iload_n hx hb d_D_fill_199 rfl (lv_at hl 3 rfl) ?_
                            refine lv_imul hx hb d_D_fill_200 ?_
                            refine lv_iload hx hb d_D_fill_201 (lv_at hl 6 rfl) ?_
                            refine lv_iadd hx hb d_D_fill_203 ?_
                            refine lv_lload hx hb d_D_fill_204 (lv_at hl 0 rfl) ?_
                            obtain ⟨h9, hm⟩ := gd hm
                            refine va_last hx hb hK hP hD hS 11 2 rfl rfl h9 d_D_fill_206 (fun H locs hP hD hS => ?_)
                            have hP : va_P (dC, dI) classes [(dq, .inr (5, [.int d_thrown, .int d_today, .int d_cut, .int d_aging, .int d_saleFrom, .int d_pieces, .int d_orders, .ref dq8, .ref dq9, .ref dq10, .ref dq11, .ref dq12, .ref dq13, .ref dq14, .ref dq15, .int d_ran, .int d_sum, .ref dq18, .ref dq19, .ref dq20])), (dq8, .inl (cI, 40, .inl d_piece)), (dq9, .inl (cI, 40, .inl d_order)), (dq10, .inl (cI, 10, .inl d_came)), (dq11, .inl (cI, 100, .inl d_worth)), (dq12, .inl (cZ, 10, .inl d_used)), (dq13, .inl (cI, 10, .inl d_usedBy)), (dq14, .inl (cI, 10, .inl d_reservedFor)), (dq15, .inl (cI, 10, .inl d_reservedTo)), (dq18, .inl (cI, 10, .inl d_pieceDual)), (dq19, .inl (cI, 10, .inl d_orderDual)), (dq20, .inl (cJ, 11264, .inr (.inl (vp_updL d_tablee ((1024 * y2e) + y6e).toNatClampNeg ((d_tablee ((1024 * (y2e + 1)) + (y6e ||| ((1 : Int32) <<< (y3e &&& 31)))).toNatClampNeg) + y4e)))))] H := hP
                            have hD : va_D A [(dq, .inr (5, [.int d_thrown, .int d_today, .int d_cut, .int d_aging, .int d_saleFrom, .int d_pieces, .int d_orders, .ref dq8, .ref dq9, .ref dq10, .ref dq11, .ref dq12, .ref dq13, .ref dq14, .ref dq15, .int d_ran, .int d_sum, .ref dq18, .ref dq19, .ref dq20])), (dq8, .inl (cI, 40, .inl d_piece)), (dq9, .inl (cI, 40, .inl d_order)), (dq10, .inl (cI, 10, .inl d_came)), (dq11, .inl (cI, 100, .inl d_worth)), (dq12, .inl (cZ, 10, .inl d_used)), (dq13, .inl (cI, 10, .inl d_usedBy)), (dq14, .inl (cI, 10, .inl d_reservedFor)), (dq15, .inl (cI, 10, .inl d_reservedTo)), (dq18, .inl (cI, 10, .inl d_pieceDual)), (dq19, .inl (cI, 10, .inl d_orderDual)), (dq20, .inl (cJ, 11264, .inr (.inl (vp_updL d_tablee ((1024 * y2e) + y6e).toNatClampNeg ((d_tablee ((1024 * (y2e + 1)) + (y6e ||| ((1 : Int32) <<< (y3e &&& 31)))).toNatClampNeg) + y4e)))))] := hD
                            refine lv_iinc (v := (y6e + 1)) (lv' := [(6, .int (y6e + 1)), (7, .long ((d_tablee ((1024 * (y2e + 1)) + (y6e ||| ((1 : Int32) <<< (y3e &&& 31)))).toNatClampNeg) + y4e)), (0, .ref dq), (1, .int y1e), (2, .int y2e), (3, .int y3e), (4, .long y4e)]) hx hb d_D_fill_207 hl (k := 6) rfl rfl (by decide) rfl (fun ls hl => ?_)
                            refine lv_goto (tgt := 128) hx hb d_D_fill_210 (by decide) ?_
                            have hl : lv_has ls 9 [(0, .ref dq), (1, .int y1e), (2, .int y2e), (3, .int y3e), (4, .long y4e), (6, .int (y6e + 1))] := lv_sub hl [2, 3, 4, 5, 6, 0] rfl
                            exact ih128 y1e y2e y3e y4e (y6e + 1) (vp_updL d_tablee ((1024 * y2e) + y6e).toNatClampNeg ((d_tablee ((1024 * (y2e + 1)) + (y6e ||| ((1 : Int32) <<< (y3e &&& 31)))).toNatClampNeg) + y4e)) _ _ ls hl hP hD hS hm
                        · replace hm := if_t c9 hm
                          refine lv_goto (tgt := 207) hx hb d_D_fill_146 (by decide) ?_
                          refine lv_iinc (v := (y6e + 1)) (lv' := [(6, .int (y6e + 1)), (0, .ref dq), (1, .int y1e), (2, .int y2e), (3, .int y3e), (4, .long y4e)]) hx hb d_D_fill_207 hl (k := 5) rfl rfl (by decide) rfl (fun ls hl => ?_)
                          refine lv_goto (tgt := 128) hx hb d_D_fill_210 (by decide) ?_
                          have hl : lv_has ls 9 [(0, .ref dq), (1, .int y1e), (2, .int y2e), (3, .int y3e), (4, .long y4e), (6, .int (y6e + 1))] := lv_sub hl [1, 2, 3, 4, 5, 0] rfl
                          exact ih128 y1e y2e y3e y4e (y6e + 1) d_tablee _ _ ls hl hP hD hS hm
                  have hl : lv_has ls 9 [(0, .ref dq), (1, .int y1d), (2, .int y2d), (3, .int y3d), (4, .long ((16 * r2.toInt64) + 1)), (6, .int 0)] := lv_sub hl [2, 3, 4, 5, 1, 0] rfl
                  refine key128 _ (fun y1e y2e y3e y4e y6e d_tablee H locs ls hl hP hD hS hm => ?_) N y1d y2d y3d ((16 * r2.toInt64) + 1) 0 d_tabled _ _ ls hl hP hD hS hm
                  try dsimp only at hm
                  refine lv_iinc (v := (y3e + 1)) (lv' := [(3, .int (y3e + 1)), (0, .ref dq), (1, .int y1e), (2, .int y2e), (4, .long y4e), (6, .int y6e)]) hx hb d_D_fill_213 hl (k := 3) rfl rfl (by decide) rfl (fun ls hl => ?_)
                  refine lv_goto (tgt := 85) hx hb d_D_fill_216 (by decide) ?_
                  have hl : lv_has ls 9 [(0, .ref dq), (1, .int y1e), (2, .int y2e), (3, .int (y3e + 1))] := lv_sub hl [1, 2, 3, 0] rfl
                  exact ih85 y1e y2e (y3e + 1) d_tablee _ _ ls hl hP hD hS hm
                · replace hm := if_t c9 hm
                  refine lv_goto (tgt := 213) hx hb d_D_fill_107 (by decide) ?_
                  refine lv_iinc (v := (y3d + 1)) (lv' := [(3, .int (y3d + 1)), (0, .ref dq), (1, .int y1d), (2, .int y2d)]) hx hb d_D_fill_213 hl (k := 3) rfl rfl (by decide) rfl (fun ls hl => ?_)
                  refine lv_goto (tgt := 85) hx hb d_D_fill_216 (by decide) ?_
                  have hl : lv_has ls 9 [(0, .ref dq), (1, .int y1d), (2, .int y2d), (3, .int (y3d + 1))] := lv_sub hl [1, 2, 3, 0] rfl
                  exact ih85 y1d y2d (y3d + 1) d_tabled _ _ ls hl hP hD hS hm
        have hl : lv_has ls 9 [(0, .ref dq), (1, .int y1c), (2, .int y2c), (3, .int 0)] := lv_sub hl [1, 2, 3, 0] rfl
        refine key85 _ (fun y1d y2d y3d d_tabled H locs ls hl hP hD hS hm => ?_) N y1c y2c 0 d_tablec _ _ ls hl hP hD hS hm
        try dsimp only at hm
        refine lv_iinc (v := (y2d + (-1))) (lv' := [(2, .int (y2d + (-1))), (0, .ref dq), (1, .int y1d), (3, .int y3d)]) hx hb d_D_fill_219 hl (k := 2) rfl rfl (by decide) rfl (fun ls hl => ?_)
        refine lv_goto (tgt := 38) hx hb d_D_fill_222 (by decide) ?_
        have hl : lv_has ls 9 [(0, .ref dq), (1, .int y1d), (2, .int (y2d + (-1)))] := lv_sub hl [1, 2, 0] rfl
        exact ih38 y1d (y2d + (-1)) d_tabled _ _ ls hl hP hD hS hm
  have hl : lv_has ls 9 [(0, .ref dq), (1, .int y1a), (2, .int (d_pieces - 1))] := lv_sub hl [1, 2, 0] rfl
  refine key38 _ (fun y1b y2b d_tableb H locs ls hl hP hD hS hm => ?_) N y1a (d_pieces - 1) d_tablea _ _ ls hl hP hD hS hm
  try dsimp only at hm
  cases hm
  refine W.widen (k := 0) (n := 0) (Nat.le_of_ble_eq_true rfl) (Nat.le_of_ble_eq_true rfl) ?_
  exact W.vret hx hb hr (fun t ht hW => ⟨⟨(), rfl, trivial, by rw [ht]; exact hP, va_K.moved hW.alike hK, hD⟩, hS.F ht⟩) hS.2.2 d_D_fill_225

