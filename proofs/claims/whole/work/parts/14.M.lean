theorem d_M_outdate_0 : decode b_M_outdate 0 = .ok (.aload_n 0, 1) := by decide +kernel
theorem d_M_outdate_1 : decode b_M_outdate 1 = .ok (.iconst 0, 1) := by decide +kernel
theorem d_M_outdate_2 : decode b_M_outdate 2 = .ok (.putfield 27, 3) := by decide +kernel
theorem d_M_outdate_5 : decode b_M_outdate 5 = .ok (.return_, 1) := by decide +kernel
theorem d_M_isUpToDate_0 : decode b_M_isUpToDate 0 = .ok (.aload_n 0, 1) := by decide +kernel
theorem d_M_isUpToDate_1 : decode b_M_isUpToDate 1 = .ok (.getfield 27, 3) := by decide +kernel
theorem d_M_isUpToDate_4 : decode b_M_isUpToDate 4 = .ok (.ireturn, 1) := by decide +kernel
theorem d_M_pairCount_0 : decode b_M_pairCount 0 = .ok (.aload_n 0, 1) := by decide +kernel
theorem d_M_pairCount_1 : decode b_M_pairCount 1 = .ok (.getfield 31, 3) := by decide +kernel
theorem d_M_pairCount_4 : decode b_M_pairCount 4 = .ok (.ireturn, 1) := by decide +kernel
theorem d_M_bestSum_0 : decode b_M_bestSum 0 = .ok (.aload_n 0, 1) := by decide +kernel
theorem d_M_bestSum_1 : decode b_M_bestSum 1 = .ok (.getfield 35, 3) := by decide +kernel
theorem d_M_bestSum_4 : decode b_M_bestSum 4 = .ok (.ireturn, 1) := by decide +kernel
theorem d_M_allOrders_0 : decode b_M_allOrders 0 = .ok (.iconst 1, 1) := by decide +kernel
theorem d_M_allOrders_1 : decode b_M_allOrders 1 = .ok (.aload_n 0, 1) := by decide +kernel
theorem d_M_allOrders_2 : decode b_M_allOrders 2 = .ok (.getfield 45, 3) := by decide +kernel
theorem d_M_allOrders_5 : decode b_M_allOrders 5 = .ok (.ishl, 1) := by decide +kernel
theorem d_M_allOrders_6 : decode b_M_allOrders 6 = .ok (.iconst 1, 1) := by decide +kernel
theorem d_M_allOrders_7 : decode b_M_allOrders 7 = .ok (.isub, 1) := by decide +kernel
theorem d_M_allOrders_8 : decode b_M_allOrders 8 = .ok (.ireturn, 1) := by decide +kernel
theorem d_M_chosenFor_0 : decode b_M_chosenFor 0 = .ok (.aload_n 0, 1) := by decide +kernel
theorem d_M_chosenFor_1 : decode b_M_chosenFor 1 = .ok (.getfield 18, 3) := by decide +kernel
theorem d_M_chosenFor_4 : decode b_M_chosenFor 4 = .ok (.iload_n 1, 1) := by decide +kernel
theorem d_M_chosenFor_5 : decode b_M_chosenFor 5 = .ok (.iaload, 1) := by decide +kernel
theorem d_M_chosenFor_6 : decode b_M_chosenFor 6 = .ok (.ireturn, 1) := by decide +kernel
theorem d_M_dualOfPiece_0 : decode b_M_dualOfPiece 0 = .ok (.aload_n 0, 1) := by decide +kernel
theorem d_M_dualOfPiece_1 : decode b_M_dualOfPiece 1 = .ok (.getfield 21, 3) := by decide +kernel
theorem d_M_dualOfPiece_4 : decode b_M_dualOfPiece 4 = .ok (.iload_n 1, 1) := by decide +kernel
theorem d_M_dualOfPiece_5 : decode b_M_dualOfPiece 5 = .ok (.iaload, 1) := by decide +kernel
theorem d_M_dualOfPiece_6 : decode b_M_dualOfPiece 6 = .ok (.ireturn, 1) := by decide +kernel
theorem d_M_dualOfOrder_0 : decode b_M_dualOfOrder 0 = .ok (.aload_n 0, 1) := by decide +kernel
theorem d_M_dualOfOrder_1 : decode b_M_dualOfOrder 1 = .ok (.getfield 24, 3) := by decide +kernel
theorem d_M_dualOfOrder_4 : decode b_M_dualOfOrder 4 = .ok (.iload_n 1, 1) := by decide +kernel
theorem d_M_dualOfOrder_5 : decode b_M_dualOfOrder 5 = .ok (.iaload, 1) := by decide +kernel
theorem d_M_dualOfOrder_6 : decode b_M_dualOfOrder 6 = .ok (.ireturn, 1) := by decide +kernel
theorem d_M_clearOffers_0 : decode b_M_clearOffers 0 = .ok (.iconst 0, 1) := by decide +kernel
theorem d_M_clearOffers_1 : decode b_M_clearOffers 1 = .ok (.istore_n 1, 1) := by decide +kernel
theorem d_M_clearOffers_2 : decode b_M_clearOffers 2 = .ok (.iload_n 1, 1) := by decide +kernel
theorem d_M_clearOffers_3 : decode b_M_clearOffers 3 = .ok (.aload_n 0, 1) := by decide +kernel
theorem d_M_clearOffers_4 : decode b_M_clearOffers 4 = .ok (.getfield 9, 3) := by decide +kernel
theorem d_M_clearOffers_7 : decode b_M_clearOffers 7 = .ok (.arraylength, 1) := by decide +kernel
theorem d_M_clearOffers_8 : decode b_M_clearOffers 8 = .ok (.if_icmp .ge 16, 3) := by decide +kernel
theorem d_M_clearOffers_11 : decode b_M_clearOffers 11 = .ok (.aload_n 0, 1) := by decide +kernel
theorem d_M_clearOffers_12 : decode b_M_clearOffers 12 = .ok (.getfield 9, 3) := by decide +kernel
theorem d_M_clearOffers_15 : decode b_M_clearOffers 15 = .ok (.iload_n 1, 1) := by decide +kernel
theorem d_M_clearOffers_16 : decode b_M_clearOffers 16 = .ok (.iconst 0, 1) := by decide +kernel
theorem d_M_clearOffers_17 : decode b_M_clearOffers 17 = .ok (.iastore, 1) := by decide +kernel
theorem d_M_clearOffers_18 : decode b_M_clearOffers 18 = .ok (.iinc 1 1, 3) := by decide +kernel
theorem d_M_clearOffers_21 : decode b_M_clearOffers 21 = .ok (.goto (-19), 3) := by decide +kernel
theorem d_M_clearOffers_24 : decode b_M_clearOffers 24 = .ok (.return_, 1) := by decide +kernel
theorem d_M_offer_0 : decode b_M_offer 0 = .ok (.aload_n 0, 1) := by decide +kernel
theorem d_M_offer_1 : decode b_M_offer 1 = .ok (.getfield 9, 3) := by decide +kernel
theorem d_M_offer_4 : decode b_M_offer 4 = .ok (.iload_n 1, 1) := by decide +kernel
theorem d_M_offer_5 : decode b_M_offer 5 = .ok (.iload_n 2, 1) := by decide +kernel
theorem d_M_offer_6 : decode b_M_offer 6 = .ok (.invokestatic 38, 3) := by decide +kernel
theorem d_M_offer_9 : decode b_M_offer 9 = .ok (.iload_n 3, 1) := by decide +kernel
theorem d_M_offer_10 : decode b_M_offer 10 = .ok (.bipush 16, 2) := by decide +kernel
theorem d_M_offer_12 : decode b_M_offer 12 = .ok (.imul, 1) := by decide +kernel
theorem d_M_offer_13 : decode b_M_offer 13 = .ok (.iconst 1, 1) := by decide +kernel
theorem d_M_offer_14 : decode b_M_offer 14 = .ok (.iadd, 1) := by decide +kernel
theorem d_M_offer_15 : decode b_M_offer 15 = .ok (.iastore, 1) := by decide +kernel
theorem d_M_offer_16 : decode b_M_offer 16 = .ok (.return_, 1) := by decide +kernel
theorem d_M_improveRow_0 : decode b_M_improveRow 0 = .ok (.iload_n 1, 1) := by decide +kernel
theorem d_M_improveRow_1 : decode b_M_improveRow 1 = .ok (.sipush 1024, 3) := by decide +kernel
theorem d_M_improveRow_4 : decode b_M_improveRow 4 = .ok (.imul, 1) := by decide +kernel
theorem d_M_improveRow_5 : decode b_M_improveRow 5 = .ok (.istore 4, 2) := by decide +kernel
theorem d_M_improveRow_7 : decode b_M_improveRow 7 = .ok (.iload 4, 2) := by decide +kernel
theorem d_M_improveRow_9 : decode b_M_improveRow 9 = .ok (.sipush 1024, 3) := by decide +kernel
theorem d_M_improveRow_12 : decode b_M_improveRow 12 = .ok (.isub, 1) := by decide +kernel
theorem d_M_improveRow_13 : decode b_M_improveRow 13 = .ok (.istore 5, 2) := by decide +kernel
theorem d_M_improveRow_15 : decode b_M_improveRow 15 = .ok (.iconst 1, 1) := by decide +kernel
theorem d_M_improveRow_16 : decode b_M_improveRow 16 = .ok (.iload_n 2, 1) := by decide +kernel
theorem d_M_improveRow_17 : decode b_M_improveRow 17 = .ok (.ishl, 1) := by decide +kernel
theorem d_M_improveRow_18 : decode b_M_improveRow 18 = .ok (.istore 6, 2) := by decide +kernel
theorem d_M_improveRow_20 : decode b_M_improveRow 20 = .ok (.iconst 1, 1) := by decide +kernel
theorem d_M_improveRow_21 : decode b_M_improveRow 21 = .ok (.aload_n 0, 1) := by decide +kernel
theorem d_M_improveRow_22 : decode b_M_improveRow 22 = .ok (.getfield 45, 3) := by decide +kernel
theorem d_M_improveRow_25 : decode b_M_improveRow 25 = .ok (.ishl, 1) := by decide +kernel
theorem d_M_improveRow_26 : decode b_M_improveRow 26 = .ok (.istore 7, 2) := by decide +kernel
theorem d_M_improveRow_28 : decode b_M_improveRow 28 = .ok (.iload 6, 2) := by decide +kernel
theorem d_M_improveRow_30 : decode b_M_improveRow 30 = .ok (.istore 8, 2) := by decide +kernel
theorem d_M_improveRow_32 : decode b_M_improveRow 32 = .ok (.iload 8, 2) := by decide +kernel
theorem d_M_improveRow_34 : decode b_M_improveRow 34 = .ok (.iload 7, 2) := by decide +kernel
theorem d_M_improveRow_36 : decode b_M_improveRow 36 = .ok (.if_icmp .ge 59, 3) := by decide +kernel
theorem d_M_improveRow_39 : decode b_M_improveRow 39 = .ok (.iload_n 3, 1) := by decide +kernel
theorem d_M_improveRow_40 : decode b_M_improveRow 40 = .ok (.aload_n 0, 1) := by decide +kernel
theorem d_M_improveRow_41 : decode b_M_improveRow 41 = .ok (.getfield 15, 3) := by decide +kernel
theorem d_M_improveRow_44 : decode b_M_improveRow 44 = .ok (.iload 5, 2) := by decide +kernel
theorem d_M_improveRow_46 : decode b_M_improveRow 46 = .ok (.iload 8, 2) := by decide +kernel
theorem d_M_improveRow_48 : decode b_M_improveRow 48 = .ok (.iadd, 1) := by decide +kernel
theorem d_M_improveRow_49 : decode b_M_improveRow 49 = .ok (.iload 6, 2) := by decide +kernel
theorem d_M_improveRow_51 : decode b_M_improveRow 51 = .ok (.isub, 1) := by decide +kernel
theorem d_M_improveRow_52 : decode b_M_improveRow 52 = .ok (.iaload, 1) := by decide +kernel
theorem d_M_improveRow_53 : decode b_M_improveRow 53 = .ok (.iadd, 1) := by decide +kernel
theorem d_M_improveRow_54 : decode b_M_improveRow 54 = .ok (.istore 9, 2) := by decide +kernel
theorem d_M_improveRow_56 : decode b_M_improveRow 56 = .ok (.iload 9, 2) := by decide +kernel
theorem d_M_improveRow_58 : decode b_M_improveRow 58 = .ok (.aload_n 0, 1) := by decide +kernel
theorem d_M_improveRow_59 : decode b_M_improveRow 59 = .ok (.getfield 15, 3) := by decide +kernel
theorem d_M_improveRow_62 : decode b_M_improveRow 62 = .ok (.iload 4, 2) := by decide +kernel
theorem d_M_improveRow_64 : decode b_M_improveRow 64 = .ok (.iload 8, 2) := by decide +kernel
theorem d_M_improveRow_66 : decode b_M_improveRow 66 = .ok (.iadd, 1) := by decide +kernel
theorem d_M_improveRow_67 : decode b_M_improveRow 67 = .ok (.iaload, 1) := by decide +kernel
theorem d_M_improveRow_68 : decode b_M_improveRow 68 = .ok (.if_icmp .le 15, 3) := by decide +kernel
theorem d_M_improveRow_71 : decode b_M_improveRow 71 = .ok (.aload_n 0, 1) := by decide +kernel
theorem d_M_improveRow_72 : decode b_M_improveRow 72 = .ok (.getfield 15, 3) := by decide +kernel
theorem d_M_improveRow_75 : decode b_M_improveRow 75 = .ok (.iload 4, 2) := by decide +kernel
theorem d_M_improveRow_77 : decode b_M_improveRow 77 = .ok (.iload 8, 2) := by decide +kernel
theorem d_M_improveRow_79 : decode b_M_improveRow 79 = .ok (.iadd, 1) := by decide +kernel
theorem d_M_improveRow_80 : decode b_M_improveRow 80 = .ok (.iload 9, 2) := by decide +kernel
theorem d_M_improveRow_82 : decode b_M_improveRow 82 = .ok (.iastore, 1) := by decide +kernel
theorem d_M_improveRow_83 : decode b_M_improveRow 83 = .ok (.iload 8, 2) := by decide +kernel
theorem d_M_improveRow_85 : decode b_M_improveRow 85 = .ok (.iconst 1, 1) := by decide +kernel
theorem d_M_improveRow_86 : decode b_M_improveRow 86 = .ok (.iadd, 1) := by decide +kernel
theorem d_M_improveRow_87 : decode b_M_improveRow 87 = .ok (.iload 6, 2) := by decide +kernel
theorem d_M_improveRow_89 : decode b_M_improveRow 89 = .ok (.ior, 1) := by decide +kernel
theorem d_M_improveRow_90 : decode b_M_improveRow 90 = .ok (.istore 8, 2) := by decide +kernel
theorem d_M_improveRow_92 : decode b_M_improveRow 92 = .ok (.goto (-60), 3) := by decide +kernel
theorem d_M_improveRow_95 : decode b_M_improveRow 95 = .ok (.return_, 1) := by decide +kernel
theorem d_M_fillBest_0 : decode b_M_fillBest 0 = .ok (.iconst 1, 1) := by decide +kernel
theorem d_M_fillBest_1 : decode b_M_fillBest 1 = .ok (.istore_n 1, 1) := by decide +kernel
theorem d_M_fillBest_2 : decode b_M_fillBest 2 = .ok (.iload_n 1, 1) := by decide +kernel
theorem d_M_fillBest_3 : decode b_M_fillBest 3 = .ok (.aload_n 0, 1) := by decide +kernel
theorem d_M_fillBest_4 : decode b_M_fillBest 4 = .ok (.getfield 42, 3) := by decide +kernel
theorem d_M_fillBest_7 : decode b_M_fillBest 7 = .ok (.if_icmp .gt 81, 3) := by decide +kernel
theorem d_M_fillBest_10 : decode b_M_fillBest 10 = .ok (.aload_n 0, 1) := by decide +kernel
theorem d_M_fillBest_11 : decode b_M_fillBest 11 = .ok (.getfield 15, 3) := by decide +kernel
theorem d_M_fillBest_14 : decode b_M_fillBest 14 = .ok (.iload_n 1, 1) := by decide +kernel
theorem d_M_fillBest_15 : decode b_M_fillBest 15 = .ok (.iconst 1, 1) := by decide +kernel
theorem d_M_fillBest_16 : decode b_M_fillBest 16 = .ok (.isub, 1) := by decide +kernel
theorem d_M_fillBest_17 : decode b_M_fillBest 17 = .ok (.sipush 1024, 3) := by decide +kernel
theorem d_M_fillBest_20 : decode b_M_fillBest 20 = .ok (.imul, 1) := by decide +kernel
theorem d_M_fillBest_21 : decode b_M_fillBest 21 = .ok (.aload_n 0, 1) := by decide +kernel
theorem d_M_fillBest_22 : decode b_M_fillBest 22 = .ok (.getfield 15, 3) := by decide +kernel
theorem d_M_fillBest_25 : decode b_M_fillBest 25 = .ok (.iload_n 1, 1) := by decide +kernel
theorem d_M_fillBest_26 : decode b_M_fillBest 26 = .ok (.sipush 1024, 3) := by decide +kernel
theorem d_M_fillBest_29 : decode b_M_fillBest 29 = .ok (.imul, 1) := by decide +kernel
theorem d_M_fillBest_30 : decode b_M_fillBest 30 = .ok (.iconst 1, 1) := by decide +kernel
theorem d_M_fillBest_31 : decode b_M_fillBest 31 = .ok (.aload_n 0, 1) := by decide +kernel
theorem d_M_fillBest_32 : decode b_M_fillBest 32 = .ok (.getfield 45, 3) := by decide +kernel
theorem d_M_fillBest_35 : decode b_M_fillBest 35 = .ok (.ishl, 1) := by decide +kernel
theorem d_M_fillBest_36 : decode b_M_fillBest 36 = .ok (.invokestatic 57, 3) := by decide +kernel
theorem d_M_fillBest_39 : decode b_M_fillBest 39 = .ok (.iconst 0, 1) := by decide +kernel
theorem d_M_fillBest_40 : decode b_M_fillBest 40 = .ok (.istore_n 2, 1) := by decide +kernel
theorem d_M_fillBest_41 : decode b_M_fillBest 41 = .ok (.iload_n 2, 1) := by decide +kernel
theorem d_M_fillBest_42 : decode b_M_fillBest 42 = .ok (.aload_n 0, 1) := by decide +kernel
theorem d_M_fillBest_43 : decode b_M_fillBest 43 = .ok (.getfield 45, 3) := by decide +kernel
theorem d_M_fillBest_46 : decode b_M_fillBest 46 = .ok (.if_icmp .ge 36, 3) := by decide +kernel
theorem d_M_fillBest_49 : decode b_M_fillBest 49 = .ok (.aload_n 0, 1) := by decide +kernel
theorem d_M_fillBest_50 : decode b_M_fillBest 50 = .ok (.getfield 9, 3) := by decide +kernel
theorem d_M_fillBest_53 : decode b_M_fillBest 53 = .ok (.aload_n 0, 1) := by decide +kernel
theorem d_M_fillBest_54 : decode b_M_fillBest 54 = .ok (.getfield 42, 3) := by decide +kernel
theorem d_M_fillBest_57 : decode b_M_fillBest 57 = .ok (.iload_n 1, 1) := by decide +kernel
theorem d_M_fillBest_58 : decode b_M_fillBest 58 = .ok (.isub, 1) := by decide +kernel
theorem d_M_fillBest_59 : decode b_M_fillBest 59 = .ok (.iload_n 2, 1) := by decide +kernel
theorem d_M_fillBest_60 : decode b_M_fillBest 60 = .ok (.invokestatic 38, 3) := by decide +kernel
theorem d_M_fillBest_63 : decode b_M_fillBest 63 = .ok (.iaload, 1) := by decide +kernel
theorem d_M_fillBest_64 : decode b_M_fillBest 64 = .ok (.istore_n 3, 1) := by decide +kernel
theorem d_M_fillBest_65 : decode b_M_fillBest 65 = .ok (.iload_n 3, 1) := by decide +kernel
theorem d_M_fillBest_66 : decode b_M_fillBest 66 = .ok (.ifCond .le 10, 3) := by decide +kernel
theorem d_M_fillBest_69 : decode b_M_fillBest 69 = .ok (.aload_n 0, 1) := by decide +kernel
theorem d_M_fillBest_70 : decode b_M_fillBest 70 = .ok (.iload_n 1, 1) := by decide +kernel
theorem d_M_fillBest_71 : decode b_M_fillBest 71 = .ok (.iload_n 2, 1) := by decide +kernel
theorem d_M_fillBest_72 : decode b_M_fillBest 72 = .ok (.iload_n 3, 1) := by decide +kernel
theorem d_M_fillBest_73 : decode b_M_fillBest 73 = .ok (.invokevirtual 63, 3) := by decide +kernel
theorem d_M_fillBest_76 : decode b_M_fillBest 76 = .ok (.iinc 2 1, 3) := by decide +kernel
theorem d_M_fillBest_79 : decode b_M_fillBest 79 = .ok (.goto (-38), 3) := by decide +kernel
theorem d_M_fillBest_82 : decode b_M_fillBest 82 = .ok (.iinc 1 1, 3) := by decide +kernel
theorem d_M_fillBest_85 : decode b_M_fillBest 85 = .ok (.goto (-83), 3) := by decide +kernel
theorem d_M_fillBest_88 : decode b_M_fillBest 88 = .ok (.return_, 1) := by decide +kernel
theorem d_M_lowestOfBest_0 : decode b_M_lowestOfBest 0 = .ok (.aload_n 0, 1) := by decide +kernel
theorem d_M_lowestOfBest_1 : decode b_M_lowestOfBest 1 = .ok (.getfield 42, 3) := by decide +kernel
theorem d_M_lowestOfBest_4 : decode b_M_lowestOfBest 4 = .ok (.iload_n 1, 1) := by decide +kernel
theorem d_M_lowestOfBest_5 : decode b_M_lowestOfBest 5 = .ok (.isub, 1) := by decide +kernel
theorem d_M_lowestOfBest_6 : decode b_M_lowestOfBest 6 = .ok (.sipush 1024, 3) := by decide +kernel
theorem d_M_lowestOfBest_9 : decode b_M_lowestOfBest 9 = .ok (.imul, 1) := by decide +kernel
theorem d_M_lowestOfBest_10 : decode b_M_lowestOfBest 10 = .ok (.istore_n 3, 1) := by decide +kernel
theorem d_M_lowestOfBest_11 : decode b_M_lowestOfBest 11 = .ok (.iload_n 3, 1) := by decide +kernel
theorem d_M_lowestOfBest_12 : decode b_M_lowestOfBest 12 = .ok (.sipush 1024, 3) := by decide +kernel
theorem d_M_lowestOfBest_15 : decode b_M_lowestOfBest 15 = .ok (.isub, 1) := by decide +kernel
theorem d_M_lowestOfBest_16 : decode b_M_lowestOfBest 16 = .ok (.istore 4, 2) := by decide +kernel
theorem d_M_lowestOfBest_18 : decode b_M_lowestOfBest 18 = .ok (.iconst 0, 1) := by decide +kernel
theorem d_M_lowestOfBest_19 : decode b_M_lowestOfBest 19 = .ok (.istore 5, 2) := by decide +kernel
theorem d_M_lowestOfBest_21 : decode b_M_lowestOfBest 21 = .ok (.iload 5, 2) := by decide +kernel
theorem d_M_lowestOfBest_23 : decode b_M_lowestOfBest 23 = .ok (.aload_n 0, 1) := by decide +kernel
theorem d_M_lowestOfBest_24 : decode b_M_lowestOfBest 24 = .ok (.getfield 45, 3) := by decide +kernel
theorem d_M_lowestOfBest_27 : decode b_M_lowestOfBest 27 = .ok (.if_icmp .ge 69, 3) := by decide +kernel
theorem d_M_lowestOfBest_30 : decode b_M_lowestOfBest 30 = .ok (.aload_n 0, 1) := by decide +kernel
theorem d_M_lowestOfBest_31 : decode b_M_lowestOfBest 31 = .ok (.getfield 9, 3) := by decide +kernel
theorem d_M_lowestOfBest_34 : decode b_M_lowestOfBest 34 = .ok (.iload_n 1, 1) := by decide +kernel
theorem d_M_lowestOfBest_35 : decode b_M_lowestOfBest 35 = .ok (.iload 5, 2) := by decide +kernel
theorem d_M_lowestOfBest_37 : decode b_M_lowestOfBest 37 = .ok (.invokestatic 38, 3) := by decide +kernel
theorem d_M_lowestOfBest_40 : decode b_M_lowestOfBest 40 = .ok (.iaload, 1) := by decide +kernel
theorem d_M_lowestOfBest_41 : decode b_M_lowestOfBest 41 = .ok (.istore 6, 2) := by decide +kernel
theorem d_M_lowestOfBest_43 : decode b_M_lowestOfBest 43 = .ok (.iconst 1, 1) := by decide +kernel
theorem d_M_lowestOfBest_44 : decode b_M_lowestOfBest 44 = .ok (.iload 5, 2) := by decide +kernel
theorem d_M_lowestOfBest_46 : decode b_M_lowestOfBest 46 = .ok (.ishl, 1) := by decide +kernel
theorem d_M_lowestOfBest_47 : decode b_M_lowestOfBest 47 = .ok (.istore 7, 2) := by decide +kernel
theorem d_M_lowestOfBest_49 : decode b_M_lowestOfBest 49 = .ok (.iload 6, 2) := by decide +kernel
theorem d_M_lowestOfBest_51 : decode b_M_lowestOfBest 51 = .ok (.ifCond .le 39, 3) := by decide +kernel
theorem d_M_lowestOfBest_54 : decode b_M_lowestOfBest 54 = .ok (.iload_n 2, 1) := by decide +kernel
theorem d_M_lowestOfBest_55 : decode b_M_lowestOfBest 55 = .ok (.iload 7, 2) := by decide +kernel
theorem d_M_lowestOfBest_57 : decode b_M_lowestOfBest 57 = .ok (.iand, 1) := by decide +kernel
theorem d_M_lowestOfBest_58 : decode b_M_lowestOfBest 58 = .ok (.ifCond .eq 32, 3) := by decide +kernel
theorem d_M_lowestOfBest_61 : decode b_M_lowestOfBest 61 = .ok (.iload 6, 2) := by decide +kernel
theorem d_M_lowestOfBest_63 : decode b_M_lowestOfBest 63 = .ok (.aload_n 0, 1) := by decide +kernel
theorem d_M_lowestOfBest_64 : decode b_M_lowestOfBest 64 = .ok (.getfield 15, 3) := by decide +kernel
theorem d_M_lowestOfBest_67 : decode b_M_lowestOfBest 67 = .ok (.iload 4, 2) := by decide +kernel
theorem d_M_lowestOfBest_69 : decode b_M_lowestOfBest 69 = .ok (.iload_n 2, 1) := by decide +kernel
theorem d_M_lowestOfBest_70 : decode b_M_lowestOfBest 70 = .ok (.iadd, 1) := by decide +kernel
theorem d_M_lowestOfBest_71 : decode b_M_lowestOfBest 71 = .ok (.iload 7, 2) := by decide +kernel
theorem d_M_lowestOfBest_73 : decode b_M_lowestOfBest 73 = .ok (.isub, 1) := by decide +kernel
theorem d_M_lowestOfBest_74 : decode b_M_lowestOfBest 74 = .ok (.iaload, 1) := by decide +kernel
theorem d_M_lowestOfBest_75 : decode b_M_lowestOfBest 75 = .ok (.iadd, 1) := by decide +kernel
theorem d_M_lowestOfBest_76 : decode b_M_lowestOfBest 76 = .ok (.aload_n 0, 1) := by decide +kernel
theorem d_M_lowestOfBest_77 : decode b_M_lowestOfBest 77 = .ok (.getfield 15, 3) := by decide +kernel
theorem d_M_lowestOfBest_80 : decode b_M_lowestOfBest 80 = .ok (.iload_n 3, 1) := by decide +kernel
theorem d_M_lowestOfBest_81 : decode b_M_lowestOfBest 81 = .ok (.iload_n 2, 1) := by decide +kernel
theorem d_M_lowestOfBest_82 : decode b_M_lowestOfBest 82 = .ok (.iadd, 1) := by decide +kernel
theorem d_M_lowestOfBest_83 : decode b_M_lowestOfBest 83 = .ok (.iaload, 1) := by decide +kernel
theorem d_M_lowestOfBest_84 : decode b_M_lowestOfBest 84 = .ok (.if_icmp .ne 6, 3) := by decide +kernel
theorem d_M_lowestOfBest_87 : decode b_M_lowestOfBest 87 = .ok (.iload 5, 2) := by decide +kernel
theorem d_M_lowestOfBest_89 : decode b_M_lowestOfBest 89 = .ok (.ireturn, 1) := by decide +kernel
theorem d_M_lowestOfBest_90 : decode b_M_lowestOfBest 90 = .ok (.iinc 5 1, 3) := by decide +kernel
theorem d_M_lowestOfBest_93 : decode b_M_lowestOfBest 93 = .ok (.goto (-72), 3) := by decide +kernel
theorem d_M_lowestOfBest_96 : decode b_M_lowestOfBest 96 = .ok (.iconst (-1), 1) := by decide +kernel
theorem d_M_lowestOfBest_97 : decode b_M_lowestOfBest 97 = .ok (.ireturn, 1) := by decide +kernel
theorem d_M_choose_0 : decode b_M_choose 0 = .ok (.aload_n 0, 1) := by decide +kernel
theorem d_M_choose_1 : decode b_M_choose 1 = .ok (.invokevirtual 67, 3) := by decide +kernel
theorem d_M_choose_4 : decode b_M_choose 4 = .ok (.istore_n 1, 1) := by decide +kernel
theorem d_M_choose_5 : decode b_M_choose 5 = .ok (.iconst 0, 1) := by decide +kernel
theorem d_M_choose_6 : decode b_M_choose 6 = .ok (.istore_n 2, 1) := by decide +kernel
theorem d_M_choose_7 : decode b_M_choose 7 = .ok (.iload_n 2, 1) := by decide +kernel
theorem d_M_choose_8 : decode b_M_choose 8 = .ok (.aload_n 0, 1) := by decide +kernel
theorem d_M_choose_9 : decode b_M_choose 9 = .ok (.getfield 42, 3) := by decide +kernel
theorem d_M_choose_12 : decode b_M_choose 12 = .ok (.if_icmp .ge 42, 3) := by decide +kernel
theorem d_M_choose_15 : decode b_M_choose 15 = .ok (.aload_n 0, 1) := by decide +kernel
theorem d_M_choose_16 : decode b_M_choose 16 = .ok (.getfield 18, 3) := by decide +kernel
theorem d_M_choose_19 : decode b_M_choose 19 = .ok (.iload_n 2, 1) := by decide +kernel
theorem d_M_choose_20 : decode b_M_choose 20 = .ok (.aload_n 0, 1) := by decide +kernel
theorem d_M_choose_21 : decode b_M_choose 21 = .ok (.iload_n 2, 1) := by decide +kernel
theorem d_M_choose_22 : decode b_M_choose 22 = .ok (.iload_n 1, 1) := by decide +kernel
theorem d_M_choose_23 : decode b_M_choose 23 = .ok (.invokevirtual 71, 3) := by decide +kernel
theorem d_M_choose_26 : decode b_M_choose 26 = .ok (.iastore, 1) := by decide +kernel
theorem d_M_choose_27 : decode b_M_choose 27 = .ok (.aload_n 0, 1) := by decide +kernel
theorem d_M_choose_28 : decode b_M_choose 28 = .ok (.getfield 18, 3) := by decide +kernel
theorem d_M_choose_31 : decode b_M_choose 31 = .ok (.iload_n 2, 1) := by decide +kernel
theorem d_M_choose_32 : decode b_M_choose 32 = .ok (.iaload, 1) := by decide +kernel
theorem d_M_choose_33 : decode b_M_choose 33 = .ok (.iconst (-1), 1) := by decide +kernel
theorem d_M_choose_34 : decode b_M_choose 34 = .ok (.if_icmp .eq 14, 3) := by decide +kernel
theorem d_M_choose_37 : decode b_M_choose 37 = .ok (.iload_n 1, 1) := by decide +kernel
theorem d_M_choose_38 : decode b_M_choose 38 = .ok (.iconst 1, 1) := by decide +kernel
theorem d_M_choose_39 : decode b_M_choose 39 = .ok (.aload_n 0, 1) := by decide +kernel
theorem d_M_choose_40 : decode b_M_choose 40 = .ok (.getfield 18, 3) := by decide +kernel
theorem d_M_choose_43 : decode b_M_choose 43 = .ok (.iload_n 2, 1) := by decide +kernel
theorem d_M_choose_44 : decode b_M_choose 44 = .ok (.iaload, 1) := by decide +kernel
theorem d_M_choose_45 : decode b_M_choose 45 = .ok (.ishl, 1) := by decide +kernel
theorem d_M_choose_46 : decode b_M_choose 46 = .ok (.isub, 1) := by decide +kernel
theorem d_M_choose_47 : decode b_M_choose 47 = .ok (.istore_n 1, 1) := by decide +kernel
theorem d_M_choose_48 : decode b_M_choose 48 = .ok (.iinc 2 1, 3) := by decide +kernel
theorem d_M_choose_51 : decode b_M_choose 51 = .ok (.goto (-44), 3) := by decide +kernel
theorem d_M_choose_54 : decode b_M_choose 54 = .ok (.return_, 1) := by decide +kernel
theorem d_M_prove_0 : decode b_M_prove 0 = .ok (.aload_n 0, 1) := by decide +kernel
theorem d_M_prove_1 : decode b_M_prove 1 = .ok (.getfield 42, 3) := by decide +kernel
theorem d_M_prove_4 : decode b_M_prove 4 = .ok (.sipush 1024, 3) := by decide +kernel
theorem d_M_prove_7 : decode b_M_prove 7 = .ok (.imul, 1) := by decide +kernel
theorem d_M_prove_8 : decode b_M_prove 8 = .ok (.aload_n 0, 1) := by decide +kernel
theorem d_M_prove_9 : decode b_M_prove 9 = .ok (.invokevirtual 67, 3) := by decide +kernel
theorem d_M_prove_12 : decode b_M_prove 12 = .ok (.iadd, 1) := by decide +kernel
theorem d_M_prove_13 : decode b_M_prove 13 = .ok (.istore_n 1, 1) := by decide +kernel
theorem d_M_prove_14 : decode b_M_prove 14 = .ok (.aload_n 0, 1) := by decide +kernel
theorem d_M_prove_15 : decode b_M_prove 15 = .ok (.aload_n 0, 1) := by decide +kernel
theorem d_M_prove_16 : decode b_M_prove 16 = .ok (.getfield 15, 3) := by decide +kernel
theorem d_M_prove_19 : decode b_M_prove 19 = .ok (.iload_n 1, 1) := by decide +kernel
theorem d_M_prove_20 : decode b_M_prove 20 = .ok (.iaload, 1) := by decide +kernel
theorem d_M_prove_21 : decode b_M_prove 21 = .ok (.bipush 16, 2) := by decide +kernel
theorem d_M_prove_23 : decode b_M_prove 23 = .ok (.irem, 1) := by decide +kernel
theorem d_M_prove_24 : decode b_M_prove 24 = .ok (.putfield 31, 3) := by decide +kernel
theorem d_M_prove_27 : decode b_M_prove 27 = .ok (.aload_n 0, 1) := by decide +kernel
theorem d_M_prove_28 : decode b_M_prove 28 = .ok (.aload_n 0, 1) := by decide +kernel
theorem d_M_prove_29 : decode b_M_prove 29 = .ok (.getfield 15, 3) := by decide +kernel
theorem d_M_prove_32 : decode b_M_prove 32 = .ok (.iload_n 1, 1) := by decide +kernel
theorem d_M_prove_33 : decode b_M_prove 33 = .ok (.iaload, 1) := by decide +kernel
theorem d_M_prove_34 : decode b_M_prove 34 = .ok (.bipush 16, 2) := by decide +kernel
theorem d_M_prove_36 : decode b_M_prove 36 = .ok (.idiv, 1) := by decide +kernel
theorem d_M_prove_37 : decode b_M_prove 37 = .ok (.putfield 35, 3) := by decide +kernel
theorem d_M_prove_40 : decode b_M_prove 40 = .ok (.iconst 0, 1) := by decide +kernel
theorem d_M_prove_41 : decode b_M_prove 41 = .ok (.istore_n 2, 1) := by decide +kernel
theorem d_M_prove_42 : decode b_M_prove 42 = .ok (.iload_n 2, 1) := by decide +kernel
theorem d_M_prove_43 : decode b_M_prove 43 = .ok (.aload_n 0, 1) := by decide +kernel
theorem d_M_prove_44 : decode b_M_prove 44 = .ok (.getfield 45, 3) := by decide +kernel
theorem d_M_prove_47 : decode b_M_prove 47 = .ok (.if_icmp .ge 33, 3) := by decide +kernel
theorem d_M_prove_50 : decode b_M_prove 50 = .ok (.aload_n 0, 1) := by decide +kernel
theorem d_M_prove_51 : decode b_M_prove 51 = .ok (.getfield 24, 3) := by decide +kernel
theorem d_M_prove_54 : decode b_M_prove 54 = .ok (.iload_n 2, 1) := by decide +kernel
theorem d_M_prove_55 : decode b_M_prove 55 = .ok (.aload_n 0, 1) := by decide +kernel
theorem d_M_prove_56 : decode b_M_prove 56 = .ok (.getfield 35, 3) := by decide +kernel
theorem d_M_prove_59 : decode b_M_prove 59 = .ok (.aload_n 0, 1) := by decide +kernel
theorem d_M_prove_60 : decode b_M_prove 60 = .ok (.getfield 15, 3) := by decide +kernel
theorem d_M_prove_63 : decode b_M_prove 63 = .ok (.iload_n 1, 1) := by decide +kernel
theorem d_M_prove_64 : decode b_M_prove 64 = .ok (.iconst 1, 1) := by decide +kernel
theorem d_M_prove_65 : decode b_M_prove 65 = .ok (.iload_n 2, 1) := by decide +kernel
theorem d_M_prove_66 : decode b_M_prove 66 = .ok (.ishl, 1) := by decide +kernel
theorem d_M_prove_67 : decode b_M_prove 67 = .ok (.isub, 1) := by decide +kernel
theorem d_M_prove_68 : decode b_M_prove 68 = .ok (.iaload, 1) := by decide +kernel
theorem d_M_prove_69 : decode b_M_prove 69 = .ok (.bipush 16, 2) := by decide +kernel
theorem d_M_prove_71 : decode b_M_prove 71 = .ok (.idiv, 1) := by decide +kernel
theorem d_M_prove_72 : decode b_M_prove 72 = .ok (.isub, 1) := by decide +kernel
theorem d_M_prove_73 : decode b_M_prove 73 = .ok (.iastore, 1) := by decide +kernel
theorem d_M_prove_74 : decode b_M_prove 74 = .ok (.iinc 2 1, 3) := by decide +kernel
theorem d_M_prove_77 : decode b_M_prove 77 = .ok (.goto (-35), 3) := by decide +kernel
theorem d_M_prove_80 : decode b_M_prove 80 = .ok (.iconst 0, 1) := by decide +kernel
theorem d_M_prove_81 : decode b_M_prove 81 = .ok (.istore_n 2, 1) := by decide +kernel
theorem d_M_prove_82 : decode b_M_prove 82 = .ok (.iload_n 2, 1) := by decide +kernel
theorem d_M_prove_83 : decode b_M_prove 83 = .ok (.aload_n 0, 1) := by decide +kernel
theorem d_M_prove_84 : decode b_M_prove 84 = .ok (.getfield 42, 3) := by decide +kernel
theorem d_M_prove_87 : decode b_M_prove 87 = .ok (.if_icmp .ge 51, 3) := by decide +kernel
theorem d_M_prove_90 : decode b_M_prove 90 = .ok (.aload_n 0, 1) := by decide +kernel
theorem d_M_prove_91 : decode b_M_prove 91 = .ok (.getfield 18, 3) := by decide +kernel
theorem d_M_prove_94 : decode b_M_prove 94 = .ok (.iload_n 2, 1) := by decide +kernel
theorem d_M_prove_95 : decode b_M_prove 95 = .ok (.iaload, 1) := by decide +kernel
theorem d_M_prove_96 : decode b_M_prove 96 = .ok (.istore_n 3, 1) := by decide +kernel
theorem d_M_prove_97 : decode b_M_prove 97 = .ok (.aload_n 0, 1) := by decide +kernel
theorem d_M_prove_98 : decode b_M_prove 98 = .ok (.getfield 21, 3) := by decide +kernel
theorem d_M_prove_101 : decode b_M_prove 101 = .ok (.iload_n 2, 1) := by decide +kernel
theorem d_M_prove_102 : decode b_M_prove 102 = .ok (.iload_n 3, 1) := by decide +kernel
theorem d_M_prove_103 : decode b_M_prove 103 = .ok (.iconst (-1), 1) := by decide +kernel
theorem d_M_prove_104 : decode b_M_prove 104 = .ok (.if_icmp .ne 7, 3) := by decide +kernel
theorem d_M_prove_107 : decode b_M_prove 107 = .ok (.iconst 0, 1) := by decide +kernel
theorem d_M_prove_108 : decode b_M_prove 108 = .ok (.goto 23, 3) := by decide +kernel
theorem d_M_prove_111 : decode b_M_prove 111 = .ok (.aload_n 0, 1) := by decide +kernel
theorem d_M_prove_112 : decode b_M_prove 112 = .ok (.getfield 9, 3) := by decide +kernel
theorem d_M_prove_115 : decode b_M_prove 115 = .ok (.iload_n 2, 1) := by decide +kernel
theorem d_M_prove_116 : decode b_M_prove 116 = .ok (.iload_n 3, 1) := by decide +kernel
theorem d_M_prove_117 : decode b_M_prove 117 = .ok (.invokestatic 38, 3) := by decide +kernel
theorem d_M_prove_120 : decode b_M_prove 120 = .ok (.iaload, 1) := by decide +kernel
theorem d_M_prove_121 : decode b_M_prove 121 = .ok (.bipush 16, 2) := by decide +kernel
theorem d_M_prove_123 : decode b_M_prove 123 = .ok (.idiv, 1) := by decide +kernel
theorem d_M_prove_124 : decode b_M_prove 124 = .ok (.aload_n 0, 1) := by decide +kernel
theorem d_M_prove_125 : decode b_M_prove 125 = .ok (.getfield 24, 3) := by decide +kernel
theorem d_M_prove_128 : decode b_M_prove 128 = .ok (.iload_n 3, 1) := by decide +kernel
theorem d_M_prove_129 : decode b_M_prove 129 = .ok (.iaload, 1) := by decide +kernel
theorem d_M_prove_130 : decode b_M_prove 130 = .ok (.isub, 1) := by decide +kernel
theorem d_M_prove_131 : decode b_M_prove 131 = .ok (.iastore, 1) := by decide +kernel
theorem d_M_prove_132 : decode b_M_prove 132 = .ok (.iinc 2 1, 3) := by decide +kernel
theorem d_M_prove_135 : decode b_M_prove 135 = .ok (.goto (-53), 3) := by decide +kernel
theorem d_M_prove_138 : decode b_M_prove 138 = .ok (.return_, 1) := by decide +kernel
theorem d_M_solve_0 : decode b_M_solve 0 = .ok (.aload_n 0, 1) := by decide +kernel
theorem d_M_solve_1 : decode b_M_solve 1 = .ok (.iload_n 1, 1) := by decide +kernel
theorem d_M_solve_2 : decode b_M_solve 2 = .ok (.putfield 42, 3) := by decide +kernel
theorem d_M_solve_5 : decode b_M_solve 5 = .ok (.aload_n 0, 1) := by decide +kernel
theorem d_M_solve_6 : decode b_M_solve 6 = .ok (.iload_n 2, 1) := by decide +kernel
theorem d_M_solve_7 : decode b_M_solve 7 = .ok (.putfield 45, 3) := by decide +kernel
theorem d_M_solve_10 : decode b_M_solve 10 = .ok (.aload_n 0, 1) := by decide +kernel
theorem d_M_solve_11 : decode b_M_solve 11 = .ok (.invokevirtual 48, 3) := by decide +kernel
theorem d_M_solve_14 : decode b_M_solve 14 = .ok (.aload_n 0, 1) := by decide +kernel
theorem d_M_solve_15 : decode b_M_solve 15 = .ok (.invokevirtual 51, 3) := by decide +kernel
theorem d_M_solve_18 : decode b_M_solve 18 = .ok (.aload_n 0, 1) := by decide +kernel
theorem d_M_solve_19 : decode b_M_solve 19 = .ok (.invokevirtual 54, 3) := by decide +kernel
theorem d_M_solve_22 : decode b_M_solve 22 = .ok (.aload_n 0, 1) := by decide +kernel
theorem d_M_solve_23 : decode b_M_solve 23 = .ok (.iconst 1, 1) := by decide +kernel
theorem d_M_solve_24 : decode b_M_solve 24 = .ok (.putfield 27, 3) := by decide +kernel
theorem d_M_solve_27 : decode b_M_solve 27 = .ok (.return_, 1) := by decide +kernel
def w_M_outdate : List Cond := .code y_M_outdate b_M_outdate 1 none :: W0
theorem q_M_outdate : y_M_outdate.cls = R_M ∧ y_M_outdate.cls ≠ "java/lang/invoke/MethodHandle" ∧ y_M_outdate.cls ≠ "java/lang/invoke/VarHandle" ∧ (parseMethodDescriptor y_M_outdate.desc).map (fun d => d.parameters.length) = some 0 := by decide +kernel
def m_M_outdate  : Option Int32 :=
  some 0
set_option maxHeartbeats 4000000 in
set_option maxRecDepth 100000 in
theorem c_M_outdate (l : Launch) (dC : Nat → ClassId) (dI : Nat → Nat → Nat) (cI : ClassId) (mq mq1 mq2 mq3 mq4 mq5 : Nat) (sz : Nat) (m_gains : Nat → Int32) (m_best : Nat → Int32) (m_chosen : Nat → Int32) (m_pieceDuals : Nat → Int32) (m_orderDuals : Nat → Int32) (m_pieceCount : Int32) (m_orderCount : Int32) (m_pairs : Int32) (m_worthSum : Int32) (m_upToDate : Int32)  (N : Nat) (res : Int32) (hm : m_M_outdate  = some res) : Met l y_M_outdate w_M_outdate ({ frames := 0, cells := 0, slots := 0, locals := 0 } : Room) (va_Pc [.ref mq] (fun U => U.heap.size = sz ∧ va_P (dC, dI) classes [(mq, .inr (3, [.ref mq1, .ref mq2, .ref mq3, .ref mq4, .ref mq5, .int m_pieceCount, .int m_orderCount, .int m_pairs, .int m_worthSum, .int m_upToDate])), (mq1, .inl (cI, 100, .inl m_gains)), (mq2, .inl (cI, 11264, .inl m_best)), (mq3, .inl (cI, 10, .inl m_chosen)), (mq4, .inl (cI, 10, .inl m_pieceDuals)), (mq5, .inl (cI, 10, .inl m_orderDuals))] U.heap ∧ va_K (dC, dI) classes [(cI, .int)] U ∧ va_D (fun _ => True) [(mq, .inr (3, [.ref mq1, .ref mq2, .ref mq3, .ref mq4, .ref mq5, .int m_pieceCount, .int m_orderCount, .int m_pairs, .int m_worthSum, .int m_upToDate])), (mq1, .inl (cI, 100, .inl m_gains)), (mq2, .inl (cI, 11264, .inl m_best)), (mq3, .inl (cI, 10, .inl m_chosen)), (mq4, .inl (cI, 10, .inl m_pieceDuals)), (mq5, .inl (cI, 10, .inl m_orderDuals))] ∧ nw U)) (va_Qv (fun _ : Unit => True) (fun _ t => va_P (dC, dI) classes [(mq, .inr (3, [.ref mq1, .ref mq2, .ref mq3, .ref mq4, .ref mq5, .int m_pieceCount, .int m_orderCount, .int m_pairs, .int m_worthSum, .int res])), (mq1, .inl (cI, 100, .inl m_gains)), (mq2, .inl (cI, 11264, .inl m_best)), (mq3, .inl (cI, 10, .inl m_chosen)), (mq4, .inl (cI, 10, .inl m_pieceDuals)), (mq5, .inl (cI, 10, .inl m_orderDuals))] t.heap ∧ va_K (dC, dI) classes [(cI, .int)] t ∧ va_D (va_A [(mq, .inr (3, [.ref mq1, .ref mq2, .ref mq3, .ref mq4, .ref mq5, .int m_pieceCount, .int m_orderCount, .int m_pairs, .int m_worthSum, .int m_upToDate])), (mq1, .inl (cI, 100, .inl m_gains)), (mq2, .inl (cI, 11264, .inl m_best)), (mq3, .inl (cI, 10, .inl m_chosen)), (mq4, .inl (cI, 10, .inl m_pieceDuals)), (mq5, .inl (cI, 10, .inl m_orderDuals))] sz) [(mq, .inr (3, [.ref mq1, .ref mq2, .ref mq3, .ref mq4, .ref mq5, .int m_pieceCount, .int m_orderCount, .int m_pairs, .int m_worthSum, .int res])), (mq1, .inl (cI, 100, .inl m_gains)), (mq2, .inl (cI, 11264, .inl m_best)), (mq3, .inl (cI, 10, .inl m_chosen)), (mq4, .inl (cI, 10, .inl m_pieceDuals)), (mq5, .inl (cI, 10, .inl m_orderDuals))]) (va_A [(mq, .inr (3, [.ref mq1, .ref mq2, .ref mq3, .ref mq4, .ref mq5, .int m_pieceCount, .int m_orderCount, .int m_pairs, .int m_worthSum, .int m_upToDate])), (mq1, .inl (cI, 100, .inl m_gains)), (mq2, .inl (cI, 11264, .inl m_best)), (mq3, .inl (cI, 10, .inl m_chosen)), (mq4, .inl (cI, 10, .inl m_pieceDuals)), (mq5, .inl (cI, 10, .inl m_orderDuals))] sz)) 0 0 (va_A [(mq, .inr (3, [.ref mq1, .ref mq2, .ref mq3, .ref mq4, .ref mq5, .int m_pieceCount, .int m_orderCount, .int m_pairs, .int m_worthSum, .int m_upToDate])), (mq1, .inl (cI, 100, .inl m_gains)), (mq2, .inl (cI, 11264, .inl m_best)), (mq3, .inl (cI, 10, .inl m_chosen)), (mq4, .inl (cI, 10, .inl m_pieceDuals)), (mq5, .inl (cI, 10, .inl m_orderDuals))] sz) := by
  unfold m_M_outdate at hm
  refine Met.ofW (cc := b_M_outdate) (maxL := 1) (ret := none) (by decide) rfl ?_
  intro p e s m args below meth c s₁ B hml hv
  obtain ⟨rfl, hsz, hP, hK, hD0, hN⟩ := hv
  have hx := B.exec
  have hb := B.bytes
  have hr := B.returns
  have hts := atoms_spec (ws := w_M_outdate) B.pre
  have hown : s.vm.findClass R_M = some m.cls := findClass_of_methodNamed B.named
  have hlocks := B.notSynchronized
  subst hsz
  have hD := hD0.self (sz := s.heap.size)
  generalize hAe : va_A [(mq, .inr (3, [.ref mq1, .ref mq2, .ref mq3, .ref mq4, .ref mq5, .int m_pieceCount, .int m_orderCount, .int m_pairs, .int m_worthSum, .int m_upToDate])), (mq1, .inl (cI, 100, .inl m_gains)), (mq2, .inl (cI, 11264, .inl m_best)), (mq3, .inl (cI, 10, .inl m_chosen)), (mq4, .inl (cI, 10, .inl m_pieceDuals)), (mq5, .inl (cI, 10, .inl m_orderDuals))] s.heap.size = A at hD ⊢
  have hA : ∀ q : Nat, s.heap.size ≤ q → A q := fun q h => by rw [← hAe]; exact Or.inr h
  have hS : va_S A s.heap s.heap [] := va_S.rf
  have hk0 := hts (.fieldLink R_M 27 "SurplusMatch$Matching" "upToDate" "Z") (List.mem_cons_of_mem _ (w0 119 rfl))
  have hk1 : ∀ w ∈ w_M, w ∈ w_M_outdate := fun w h => List.mem_cons_of_mem _ (i_M w h)
  have hl := lv_entry ([.ref mq]) (n := 1) (Nat.le_of_ble_eq_true rfl)
  rw [lg_entry_eq]
  generalize (lg_sl ([.ref mq]) ++ List.replicate (1 - (lg_sl ([.ref mq])).length) Slot.unset).toArray = ls at hl ⊢
  have hl : lv_has ls 1 [(0, .ref mq)] := hl
  refine lv_aload_n hx hb d_M_outdate_0 rfl (lv_at hl 0 rfl) ?_
  refine lv_iconst (v := 0) hx hb d_M_outdate_1 (by decide) ?_
  refine va_put (D := (dC, dI)) (ci := 3) (v := .int 0) (ty := .boolean) (C := R_M) (T := F_M) (N := 10) hx hb hts hk1 t_M t_M_ok n_M hown hK hP hD hS 0 rfl rfl 9 (by decide) hk0 (fun _ h9 => h9) rfl (by decide +kernel) rfl rfl (Nat.le_of_ble_eq_true rfl) d_M_outdate_2 (fun H locs hP hD hS => ?_)
  have hP : va_P (dC, dI) classes [(mq, .inr (3, [.ref mq1, .ref mq2, .ref mq3, .ref mq4, .ref mq5, .int m_pieceCount, .int m_orderCount, .int m_pairs, .int m_worthSum, .int 0])), (mq1, .inl (cI, 100, .inl m_gains)), (mq2, .inl (cI, 11264, .inl m_best)), (mq3, .inl (cI, 10, .inl m_chosen)), (mq4, .inl (cI, 10, .inl m_pieceDuals)), (mq5, .inl (cI, 10, .inl m_orderDuals))] H := hP
  have hD : va_D A [(mq, .inr (3, [.ref mq1, .ref mq2, .ref mq3, .ref mq4, .ref mq5, .int m_pieceCount, .int m_orderCount, .int m_pairs, .int m_worthSum, .int 0])), (mq1, .inl (cI, 100, .inl m_gains)), (mq2, .inl (cI, 11264, .inl m_best)), (mq3, .inl (cI, 10, .inl m_chosen)), (mq4, .inl (cI, 10, .inl m_pieceDuals)), (mq5, .inl (cI, 10, .inl m_orderDuals))] := hD
  cases hm
  refine W.widen (k := 0) (n := 0) (Nat.le_of_ble_eq_true rfl) (Nat.le_of_ble_eq_true rfl) ?_
  exact W.vret hx hb hr (fun t ht hW => ⟨⟨(), rfl, trivial, by rw [ht]; exact hP, va_K.moved hW.alike hK, hD⟩, hS.F ht⟩) hS.2.2 d_M_outdate_5

def w_M_isUpToDate : List Cond := .code y_M_isUpToDate b_M_isUpToDate 1 (some .boolean) :: W0
theorem q_M_isUpToDate : y_M_isUpToDate.cls = R_M ∧ y_M_isUpToDate.cls ≠ "java/lang/invoke/MethodHandle" ∧ y_M_isUpToDate.cls ≠ "java/lang/invoke/VarHandle" ∧ (parseMethodDescriptor y_M_isUpToDate.desc).map (fun d => d.parameters.length) = some 0 := by decide +kernel
def m_M_isUpToDate (m_upToDate : Int32) : Option Int32 :=
  (if ¬ (m_upToDate &&& 1) = m_upToDate then none else some m_upToDate)
set_option maxHeartbeats 4000000 in
set_option maxRecDepth 100000 in
theorem c_M_isUpToDate (l : Launch) (dC : Nat → ClassId) (dI : Nat → Nat → Nat) (cI : ClassId) (mq mq1 mq2 mq3 mq4 mq5 : Nat) (m_gains : Nat → Int32) (m_best : Nat → Int32) (m_chosen : Nat → Int32) (m_pieceDuals : Nat → Int32) (m_orderDuals : Nat → Int32) (m_pieceCount : Int32) (m_orderCount : Int32) (m_pairs : Int32) (m_worthSum : Int32) (m_upToDate : Int32)  (N : Nat) (res : Int32) (hm : m_M_isUpToDate m_upToDate = some res) : Met l y_M_isUpToDate w_M_isUpToDate ({ frames := 0, cells := 0, slots := 0, locals := 0 } : Room) (va_Pc [.ref mq] (fun U => va_P (dC, dI) classes [(mq, .inr (3, [.ref mq1, .ref mq2, .ref mq3, .ref mq4, .ref mq5, .int m_pieceCount, .int m_orderCount, .int m_pairs, .int m_worthSum, .int m_upToDate])), (mq1, .inl (cI, 100, .inl m_gains)), (mq2, .inl (cI, 11264, .inl m_best)), (mq3, .inl (cI, 10, .inl m_chosen)), (mq4, .inl (cI, 10, .inl m_pieceDuals)), (mq5, .inl (cI, 10, .inl m_orderDuals))] U.heap ∧ va_K (dC, dI) classes [(cI, .int)] U ∧ nw U)) (vp_Si (fun x => res = x)) 0 0 (fun _ => False) := by
  unfold m_M_isUpToDate at hm
  refine Met.ofW (cc := b_M_isUpToDate) (maxL := 1) (ret := (some .boolean)) (by decide) rfl ?_
  intro p e s m args below meth c s₁ B hml hv
  obtain ⟨rfl, hP, hK, hN⟩ := hv
  have hx := B.exec
  have hb := B.bytes
  have hr := B.returns
  have hts := atoms_spec (ws := w_M_isUpToDate) B.pre
  have hown : s.vm.findClass R_M = some m.cls := findClass_of_methodNamed B.named
  have hlocks := B.notSynchronized
  have hk0 := hts (.fieldLink R_M 27 "SurplusMatch$Matching" "upToDate" "Z") (List.mem_cons_of_mem _ (w0 119 rfl))
  have hk1 : ∀ w ∈ w_M, w ∈ w_M_isUpToDate := fun w h => List.mem_cons_of_mem _ (i_M w h)
  have hl := lv_entry ([.ref mq]) (n := 1) (Nat.le_of_ble_eq_true rfl)
  rw [lg_entry_eq]
  generalize (lg_sl ([.ref mq]) ++ List.replicate (1 - (lg_sl ([.ref mq])).length) Slot.unset).toArray = ls at hl ⊢
  have hl : lv_has ls 1 [(0, .ref mq)] := hl
  refine lv_aload_n hx hb d_M_isUpToDate_0 rfl (lv_at hl 0 rfl) ?_
  refine va_get (D := (dC, dI)) (ci := 3) (v := .int m_upToDate) (C := R_M) (T := F_M) (N := 10) hx hb hts hk1 hown hK hP 0 rfl rfl 9 (by decide) hk0 (fun _ h9 => h9) rfl d_M_isUpToDate_1 ?_
  obtain ⟨h9, hm⟩ := gd hm
  have hnr : narrow .boolean (.int m_upToDate) = .int m_upToDate := by rw [show narrow .boolean (.int m_upToDate) = .int (m_upToDate &&& 1) from rfl, Classical.not_not.mp h9]
  cases hm
  exact W.zret hx hb hr hnr (fun t ht hW => ⟨_, rfl, rfl, ht⟩) (fun _ h => nomatch h) d_M_isUpToDate_4

def w_M_pairCount : List Cond := .code y_M_pairCount b_M_pairCount 1 (some .int) :: W0
theorem q_M_pairCount : y_M_pairCount.cls = R_M ∧ y_M_pairCount.cls ≠ "java/lang/invoke/MethodHandle" ∧ y_M_pairCount.cls ≠ "java/lang/invoke/VarHandle" ∧ (parseMethodDescriptor y_M_pairCount.desc).map (fun d => d.parameters.length) = some 0 := by decide +kernel
def m_M_pairCount (m_pairs : Int32) : Option Int32 :=
  some m_pairs
set_option maxHeartbeats 4000000 in
set_option maxRecDepth 100000 in
theorem c_M_pairCount (l : Launch) (dC : Nat → ClassId) (dI : Nat → Nat → Nat) (cI : ClassId) (mq mq1 mq2 mq3 mq4 mq5 : Nat) (m_gains : Nat → Int32) (m_best : Nat → Int32) (m_chosen : Nat → Int32) (m_pieceDuals : Nat → Int32) (m_orderDuals : Nat → Int32) (m_pieceCount : Int32) (m_orderCount : Int32) (m_pairs : Int32) (m_worthSum : Int32) (m_upToDate : Int32)  (N : Nat) (res : Int32) (hm : m_M_pairCount m_pairs = some res) : Met l y_M_pairCount w_M_pairCount ({ frames := 0, cells := 0, slots := 0, locals := 0 } : Room) (va_Pc [.ref mq] (fun U => va_P (dC, dI) classes [(mq, .inr (3, [.ref mq1, .ref mq2, .ref mq3, .ref mq4, .ref mq5, .int m_pieceCount, .int m_orderCount, .int m_pairs, .int m_worthSum, .int m_upToDate])), (mq1, .inl (cI, 100, .inl m_gains)), (mq2, .inl (cI, 11264, .inl m_best)), (mq3, .inl (cI, 10, .inl m_chosen)), (mq4, .inl (cI, 10, .inl m_pieceDuals)), (mq5, .inl (cI, 10, .inl m_orderDuals))] U.heap ∧ va_K (dC, dI) classes [(cI, .int)] U ∧ nw U)) (vp_Si (fun x => res = x)) 0 0 (fun _ => False) := by
  unfold m_M_pairCount at hm
  refine Met.ofW (cc := b_M_pairCount) (maxL := 1) (ret := (some .int)) (by decide) rfl ?_
  intro p e s m args below meth c s₁ B hml hv
  obtain ⟨rfl, hP, hK, hN⟩ := hv
  have hx := B.exec
  have hb := B.bytes
  have hr := B.returns
  have hts := atoms_spec (ws := w_M_pairCount) B.pre
  have hown : s.vm.findClass R_M = some m.cls := findClass_of_methodNamed B.named
  have hlocks := B.notSynchronized
  have hk0 := hts (.fieldLink R_M 31 "SurplusMatch$Matching" "pairs" "I") (List.mem_cons_of_mem _ (w0 117 rfl))
  have hk1 : ∀ w ∈ w_M, w ∈ w_M_pairCount := fun w h => List.mem_cons_of_mem _ (i_M w h)
  have hl := lv_entry ([.ref mq]) (n := 1) (Nat.le_of_ble_eq_true rfl)
  rw [lg_entry_eq]
  generalize (lg_sl ([.ref mq]) ++ List.replicate (1 - (lg_sl ([.ref mq])).length) Slot.unset).toArray = ls at hl ⊢
  have hl : lv_has ls 1 [(0, .ref mq)] := hl
  refine lv_aload_n hx hb d_M_pairCount_0 rfl (lv_at hl 0 rfl) ?_
  refine va_get (D := (dC, dI)) (ci := 3) (v := .int m_pairs) (C := R_M) (T := F_M) (N := 10) hx hb hts hk1 hown hK hP 0 rfl rfl 7 (by decide) hk0 (fun _ h9 => h9) rfl d_M_pairCount_1 ?_
  cases hm
  exact W.iret hx hb hr (fun t ht hW => ⟨_, rfl, rfl, ht⟩) (fun _ h => nomatch h) d_M_pairCount_4

def w_M_bestSum : List Cond := .code y_M_bestSum b_M_bestSum 1 (some .int) :: W0
theorem q_M_bestSum : y_M_bestSum.cls = R_M ∧ y_M_bestSum.cls ≠ "java/lang/invoke/MethodHandle" ∧ y_M_bestSum.cls ≠ "java/lang/invoke/VarHandle" ∧ (parseMethodDescriptor y_M_bestSum.desc).map (fun d => d.parameters.length) = some 0 := by decide +kernel
def m_M_bestSum (m_worthSum : Int32) : Option Int32 :=
  some m_worthSum
set_option maxHeartbeats 4000000 in
set_option maxRecDepth 100000 in
theorem c_M_bestSum (l : Launch) (dC : Nat → ClassId) (dI : Nat → Nat → Nat) (cI : ClassId) (mq mq1 mq2 mq3 mq4 mq5 : Nat) (m_gains : Nat → Int32) (m_best : Nat → Int32) (m_chosen : Nat → Int32) (m_pieceDuals : Nat → Int32) (m_orderDuals : Nat → Int32) (m_pieceCount : Int32) (m_orderCount : Int32) (m_pairs : Int32) (m_worthSum : Int32) (m_upToDate : Int32)  (N : Nat) (res : Int32) (hm : m_M_bestSum m_worthSum = some res) : Met l y_M_bestSum w_M_bestSum ({ frames := 0, cells := 0, slots := 0, locals := 0 } : Room) (va_Pc [.ref mq] (fun U => va_P (dC, dI) classes [(mq, .inr (3, [.ref mq1, .ref mq2, .ref mq3, .ref mq4, .ref mq5, .int m_pieceCount, .int m_orderCount, .int m_pairs, .int m_worthSum, .int m_upToDate])), (mq1, .inl (cI, 100, .inl m_gains)), (mq2, .inl (cI, 11264, .inl m_best)), (mq3, .inl (cI, 10, .inl m_chosen)), (mq4, .inl (cI, 10, .inl m_pieceDuals)), (mq5, .inl (cI, 10, .inl m_orderDuals))] U.heap ∧ va_K (dC, dI) classes [(cI, .int)] U ∧ nw U)) (vp_Si (fun x => res = x)) 0 0 (fun _ => False) := by
  unfold m_M_bestSum at hm
  refine Met.ofW (cc := b_M_bestSum) (maxL := 1) (ret := (some .int)) (by decide) rfl ?_
  intro p e s m args below meth c s₁ B hml hv
  obtain ⟨rfl, hP, hK, hN⟩ := hv
  have hx := B.exec
  have hb := B.bytes
  have hr := B.returns
  have hts := atoms_spec (ws := w_M_bestSum) B.pre
  have hown : s.vm.findClass R_M = some m.cls := findClass_of_methodNamed B.named
  have hlocks := B.notSynchronized
  have hk0 := hts (.fieldLink R_M 35 "SurplusMatch$Matching" "worthSum" "I") (List.mem_cons_of_mem _ (w0 118 rfl))
  have hk1 : ∀ w ∈ w_M, w ∈ w_M_bestSum := fun w h => List.mem_cons_of_mem _ (i_M w h)
  have hl := lv_entry ([.ref mq]) (n := 1) (Nat.le_of_ble_eq_true rfl)
  rw [lg_entry_eq]
  generalize (lg_sl ([.ref mq]) ++ List.replicate (1 - (lg_sl ([.ref mq])).length) Slot.unset).toArray = ls at hl ⊢
  have hl : lv_has ls 1 [(0, .ref mq)] := hl
  refine lv_aload_n hx hb d_M_bestSum_0 rfl (lv_at hl 0 rfl) ?_
  refine va_get (D := (dC, dI)) (ci := 3) (v := .int m_worthSum) (C := R_M) (T := F_M) (N := 10) hx hb hts hk1 hown hK hP 0 rfl rfl 8 (by decide) hk0 (fun _ h9 => h9) rfl d_M_bestSum_1 ?_
  cases hm
  exact W.iret hx hb hr (fun t ht hW => ⟨_, rfl, rfl, ht⟩) (fun _ h => nomatch h) d_M_bestSum_4

def w_M_allOrders : List Cond := .code y_M_allOrders b_M_allOrders 1 (some .int) :: W0
theorem q_M_allOrders : y_M_allOrders.cls = R_M ∧ y_M_allOrders.cls ≠ "java/lang/invoke/MethodHandle" ∧ y_M_allOrders.cls ≠ "java/lang/invoke/VarHandle" ∧ (parseMethodDescriptor y_M_allOrders.desc).map (fun d => d.parameters.length) = some 0 := by decide +kernel
def m_M_allOrders (m_orderCount : Int32) : Option Int32 :=
  some (((1 : Int32) <<< (m_orderCount &&& 31)) - 1)
set_option maxHeartbeats 4000000 in
set_option maxRecDepth 100000 in
theorem c_M_allOrders (l : Launch) (dC : Nat → ClassId) (dI : Nat → Nat → Nat) (cI : ClassId) (mq mq1 mq2 mq3 mq4 mq5 : Nat) (m_gains : Nat → Int32) (m_best : Nat → Int32) (m_chosen : Nat → Int32) (m_pieceDuals : Nat → Int32) (m_orderDuals : Nat → Int32) (m_pieceCount : Int32) (m_orderCount : Int32) (m_pairs : Int32) (m_worthSum : Int32) (m_upToDate : Int32)  (N : Nat) (res : Int32) (hm : m_M_allOrders m_orderCount = some res) : Met l y_M_allOrders w_M_allOrders ({ frames := 0, cells := 0, slots := 0, locals := 0 } : Room) (va_Pc [.ref mq] (fun U => va_P (dC, dI) classes [(mq, .inr (3, [.ref mq1, .ref mq2, .ref mq3, .ref mq4, .ref mq5, .int m_pieceCount, .int m_orderCount, .int m_pairs, .int m_worthSum, .int m_upToDate])), (mq1, .inl (cI, 100, .inl m_gains)), (mq2, .inl (cI, 11264, .inl m_best)), (mq3, .inl (cI, 10, .inl m_chosen)), (mq4, .inl (cI, 10, .inl m_pieceDuals)), (mq5, .inl (cI, 10, .inl m_orderDuals))] U.heap ∧ va_K (dC, dI) classes [(cI, .int)] U ∧ nw U)) (vp_Si (fun x => res = x)) 0 0 (fun _ => False) := by
  unfold m_M_allOrders at hm
  refine Met.ofW (cc := b_M_allOrders) (maxL := 1) (ret := (some .int)) (by decide) rfl ?_
  intro p e s m args below meth c s₁ B hml hv
  obtain ⟨rfl, hP, hK, hN⟩ := hv
  have hx := B.exec
  have hb := B.bytes
  have hr := B.returns
  have hts := atoms_spec (ws := w_M_allOrders) B.pre
  have hown : s.vm.findClass R_M = some m.cls := findClass_of_methodNamed B.named
  have hlocks := B.notSynchronized
  have hk0 := hts (.fieldLink R_M 45 "SurplusMatch$Matching" "orderCount" "I") (List.mem_cons_of_mem _ (w0 116 rfl))
  have hk1 : ∀ w ∈ w_M, w ∈ w_M_allOrders := fun w h => List.mem_cons_of_mem _ (i_M w h)
  have hl := lv_entry ([.ref mq]) (n := 1) (Nat.le_of_ble_eq_true rfl)
  rw [lg_entry_eq]
  generalize (lg_sl ([.ref mq]) ++ List.replicate (1 - (lg_sl ([.ref mq])).length) Slot.unset).toArray = ls at hl ⊢
  have hl : lv_has ls 1 [(0, .ref mq)] := hl
  refine lv_iconst (v := 1) hx hb d_M_allOrders_0 (by decide) ?_
  refine lv_aload_n hx hb d_M_allOrders_1 rfl (lv_at hl 0 rfl) ?_
  refine va_get (D := (dC, dI)) (ci := 3) (v := .int m_orderCount) (C := R_M) (T := F_M) (N := 10) hx hb hts hk1 hown hK hP 0 rfl rfl 6 (by decide) hk0 (fun _ h9 => h9) rfl d_M_allOrders_2 ?_
  refine lv_ishl hx hb d_M_allOrders_5 ?_
  refine lv_iconst (v := 1) hx hb d_M_allOrders_6 (by decide) ?_
  refine lv_isub hx hb d_M_allOrders_7 ?_
  cases hm
  exact W.iret hx hb hr (fun t ht hW => ⟨_, rfl, rfl, ht⟩) (fun _ h => nomatch h) d_M_allOrders_8

def w_M_chosenFor : List Cond := .code y_M_chosenFor b_M_chosenFor 2 (some .int) :: W0
theorem q_M_chosenFor : y_M_chosenFor.cls = R_M ∧ y_M_chosenFor.cls ≠ "java/lang/invoke/MethodHandle" ∧ y_M_chosenFor.cls ≠ "java/lang/invoke/VarHandle" ∧ (parseMethodDescriptor y_M_chosenFor.desc).map (fun d => d.parameters.length) = some 1 := by decide +kernel
def m_M_chosenFor (m_chosen : Nat → Int32) (x1 : Int32) : Option Int32 :=
  (if x1 < 0 ∨ 10 ≤ x1.toNatClampNeg then none else
some (m_chosen x1.toNatClampNeg))
set_option maxHeartbeats 4000000 in
set_option maxRecDepth 100000 in
theorem c_M_chosenFor (l : Launch) (dC : Nat → ClassId) (dI : Nat → Nat → Nat) (cI : ClassId) (mq mq1 mq2 mq3 mq4 mq5 : Nat) (m_gains : Nat → Int32) (m_best : Nat → Int32) (m_chosen : Nat → Int32) (m_pieceDuals : Nat → Int32) (m_orderDuals : Nat → Int32) (m_pieceCount : Int32) (m_orderCount : Int32) (m_pairs : Int32) (m_worthSum : Int32) (m_upToDate : Int32) (x1 : Int32) (N : Nat) (res : Int32) (hm : m_M_chosenFor m_chosen x1 = some res) : Met l y_M_chosenFor w_M_chosenFor ({ frames := 0, cells := 0, slots := 0, locals := 0 } : Room) (va_Pc [.ref mq, .int x1] (fun U => va_P (dC, dI) classes [(mq, .inr (3, [.ref mq1, .ref mq2, .ref mq3, .ref mq4, .ref mq5, .int m_pieceCount, .int m_orderCount, .int m_pairs, .int m_worthSum, .int m_upToDate])), (mq1, .inl (cI, 100, .inl m_gains)), (mq2, .inl (cI, 11264, .inl m_best)), (mq3, .inl (cI, 10, .inl m_chosen)), (mq4, .inl (cI, 10, .inl m_pieceDuals)), (mq5, .inl (cI, 10, .inl m_orderDuals))] U.heap ∧ va_K (dC, dI) classes [(cI, .int)] U ∧ nw U)) (vp_Si (fun x => res = x)) 0 0 (fun _ => False) := by
  unfold m_M_chosenFor at hm
  refine Met.ofW (cc := b_M_chosenFor) (maxL := 2) (ret := (some .int)) (by decide) rfl ?_
  intro p e s m args below meth c s₁ B hml hv
  obtain ⟨rfl, hP, hK, hN⟩ := hv
  have hx := B.exec
  have hb := B.bytes
  have hr := B.returns
  have hts := atoms_spec (ws := w_M_chosenFor) B.pre
  have hown : s.vm.findClass R_M = some m.cls := findClass_of_methodNamed B.named
  have hlocks := B.notSynchronized
  have hk0 := hts (.fieldLink R_M 18 "SurplusMatch$Matching" "chosen" "[I") (List.mem_cons_of_mem _ (w0 112 rfl))
  have hk1 : ∀ w ∈ w_M, w ∈ w_M_chosenFor := fun w h => List.mem_cons_of_mem _ (i_M w h)
  have hl := lv_entry ([.ref mq, .int x1]) (n := 2) (Nat.le_of_ble_eq_true rfl)
  rw [lg_entry_eq]
  generalize (lg_sl ([.ref mq, .int x1]) ++ List.replicate (2 - (lg_sl ([.ref mq, .int x1])).length) Slot.unset).toArray = ls at hl ⊢
  have hl : lv_has ls 2 [(0, .ref mq), (1, .int x1)] := hl
  refine lv_aload_n hx hb d_M_chosenFor_0 rfl (lv_at hl 0 rfl) ?_
  refine va_get (D := (dC, dI)) (ci := 3) (v := .ref mq3) (C := R_M) (T := F_M) (N := 10) hx hb hts hk1 hown hK hP 0 rfl rfl 2 (by decide) hk0 (fun _ h9 => h9) rfl d_M_chosenFor_1 ?_
  refine lv_iload_n hx hb d_M_chosenFor_4 rfl (lv_at hl 1 rfl) ?_
  obtain ⟨h9, hm⟩ := gd hm
  refine va_iald hx hb hK hP 3 0 rfl rfl h9 d_M_chosenFor_5 ?_
  cases hm
  exact W.iret hx hb hr (fun t ht hW => ⟨_, rfl, rfl, ht⟩) (fun _ h => nomatch h) d_M_chosenFor_6

def w_M_dualOfPiece : List Cond := .code y_M_dualOfPiece b_M_dualOfPiece 2 (some .int) :: W0
theorem q_M_dualOfPiece : y_M_dualOfPiece.cls = R_M ∧ y_M_dualOfPiece.cls ≠ "java/lang/invoke/MethodHandle" ∧ y_M_dualOfPiece.cls ≠ "java/lang/invoke/VarHandle" ∧ (parseMethodDescriptor y_M_dualOfPiece.desc).map (fun d => d.parameters.length) = some 1 := by decide +kernel
def m_M_dualOfPiece (m_pieceDuals : Nat → Int32) (x1 : Int32) : Option Int32 :=
  (if x1 < 0 ∨ 10 ≤ x1.toNatClampNeg then none else
some (m_pieceDuals x1.toNatClampNeg))
set_option maxHeartbeats 4000000 in
set_option maxRecDepth 100000 in
theorem c_M_dualOfPiece (l : Launch) (dC : Nat → ClassId) (dI : Nat → Nat → Nat) (cI : ClassId) (mq mq1 mq2 mq3 mq4 mq5 : Nat) (m_gains : Nat → Int32) (m_best : Nat → Int32) (m_chosen : Nat → Int32) (m_pieceDuals : Nat → Int32) (m_orderDuals : Nat → Int32) (m_pieceCount : Int32) (m_orderCount : Int32) (m_pairs : Int32) (m_worthSum : Int32) (m_upToDate : Int32) (x1 : Int32) (N : Nat) (res : Int32) (hm : m_M_dualOfPiece m_pieceDuals x1 = some res) : Met l y_M_dualOfPiece w_M_dualOfPiece ({ frames := 0, cells := 0, slots := 0, locals := 0 } : Room) (va_Pc [.ref mq, .int x1] (fun U => va_P (dC, dI) classes [(mq, .inr (3, [.ref mq1, .ref mq2, .ref mq3, .ref mq4, .ref mq5, .int m_pieceCount, .int m_orderCount, .int m_pairs, .int m_worthSum, .int m_upToDate])), (mq1, .inl (cI, 100, .inl m_gains)), (mq2, .inl (cI, 11264, .inl m_best)), (mq3, .inl (cI, 10, .inl m_chosen)), (mq4, .inl (cI, 10, .inl m_pieceDuals)), (mq5, .inl (cI, 10, .inl m_orderDuals))] U.heap ∧ va_K (dC, dI) classes [(cI, .int)] U ∧ nw U)) (vp_Si (fun x => res = x)) 0 0 (fun _ => False) := by
  unfold m_M_dualOfPiece at hm
  refine Met.ofW (cc := b_M_dualOfPiece) (maxL := 2) (ret := (some .int)) (by decide) rfl ?_
  intro p e s m args below meth c s₁ B hml hv
  obtain ⟨rfl, hP, hK, hN⟩ := hv
  have hx := B.exec
  have hb := B.bytes
  have hr := B.returns
  have hts := atoms_spec (ws := w_M_dualOfPiece) B.pre
  have hown : s.vm.findClass R_M = some m.cls := findClass_of_methodNamed B.named
  have hlocks := B.notSynchronized
  have hk0 := hts (.fieldLink R_M 21 "SurplusMatch$Matching" "pieceDuals" "[I") (List.mem_cons_of_mem _ (w0 113 rfl))
  have hk1 : ∀ w ∈ w_M, w ∈ w_M_dualOfPiece := fun w h => List.mem_cons_of_mem _ (i_M w h)
  have hl := lv_entry ([.ref mq, .int x1]) (n := 2) (Nat.le_of_ble_eq_true rfl)
  rw [lg_entry_eq]
  generalize (lg_sl ([.ref mq, .int x1]) ++ List.replicate (2 - (lg_sl ([.ref mq, .int x1])).length) Slot.unset).toArray = ls at hl ⊢
  have hl : lv_has ls 2 [(0, .ref mq), (1, .int x1)] := hl
  refine lv_aload_n hx hb d_M_dualOfPiece_0 rfl (lv_at hl 0 rfl) ?_
  refine va_get (D := (dC, dI)) (ci := 3) (v := .ref mq4) (C := R_M) (T := F_M) (N := 10) hx hb hts hk1 hown hK hP 0 rfl rfl 3 (by decide) hk0 (fun _ h9 => h9) rfl d_M_dualOfPiece_1 ?_
  refine lv_iload_n hx hb d_M_dualOfPiece_4 rfl (lv_at hl 1 rfl) ?_
  obtain ⟨h9, hm⟩ := gd hm
  refine va_iald hx hb hK hP 4 0 rfl rfl h9 d_M_dualOfPiece_5 ?_
  cases hm
  exact W.iret hx hb hr (fun t ht hW => ⟨_, rfl, rfl, ht⟩) (fun _ h => nomatch h) d_M_dualOfPiece_6

def w_M_dualOfOrder : List Cond := .code y_M_dualOfOrder b_M_dualOfOrder 2 (some .int) :: W0
theorem q_M_dualOfOrder : y_M_dualOfOrder.cls = R_M ∧ y_M_dualOfOrder.cls ≠ "java/lang/invoke/MethodHandle" ∧ y_M_dualOfOrder.cls ≠ "java/lang/invoke/VarHandle" ∧ (parseMethodDescriptor y_M_dualOfOrder.desc).map (fun d => d.parameters.length) = some 1 := by decide +kernel
def m_M_dualOfOrder (m_orderDuals : Nat → Int32) (x1 : Int32) : Option Int32 :=
  (if x1 < 0 ∨ 10 ≤ x1.toNatClampNeg then none else
some (m_orderDuals x1.toNatClampNeg))
set_option maxHeartbeats 4000000 in
set_option maxRecDepth 100000 in
theorem c_M_dualOfOrder (l : Launch) (dC : Nat → ClassId) (dI : Nat → Nat → Nat) (cI : ClassId) (mq mq1 mq2 mq3 mq4 mq5 : Nat) (m_gains : Nat → Int32) (m_best : Nat → Int32) (m_chosen : Nat → Int32) (m_pieceDuals : Nat → Int32) (m_orderDuals : Nat → Int32) (m_pieceCount : Int32) (m_orderCount : Int32) (m_pairs : Int32) (m_worthSum : Int32) (m_upToDate : Int32) (x1 : Int32) (N : Nat) (res : Int32) (hm : m_M_dualOfOrder m_orderDuals x1 = some res) : Met l y_M_dualOfOrder w_M_dualOfOrder ({ frames := 0, cells := 0, slots := 0, locals := 0 } : Room) (va_Pc [.ref mq, .int x1] (fun U => va_P (dC, dI) classes [(mq, .inr (3, [.ref mq1, .ref mq2, .ref mq3, .ref mq4, .ref mq5, .int m_pieceCount, .int m_orderCount, .int m_pairs, .int m_worthSum, .int m_upToDate])), (mq1, .inl (cI, 100, .inl m_gains)), (mq2, .inl (cI, 11264, .inl m_best)), (mq3, .inl (cI, 10, .inl m_chosen)), (mq4, .inl (cI, 10, .inl m_pieceDuals)), (mq5, .inl (cI, 10, .inl m_orderDuals))] U.heap ∧ va_K (dC, dI) classes [(cI, .int)] U ∧ nw U)) (vp_Si (fun x => res = x)) 0 0 (fun _ => False) := by
  unfold m_M_dualOfOrder at hm
  refine Met.ofW (cc := b_M_dualOfOrder) (maxL := 2) (ret := (some .int)) (by decide) rfl ?_
  intro p e s m args below meth c s₁ B hml hv
  obtain ⟨rfl, hP, hK, hN⟩ := hv
  have hx := B.exec
  have hb := B.bytes
  have hr := B.returns
  have hts := atoms_spec (ws := w_M_dualOfOrder) B.pre
  have hown : s.vm.findClass R_M = some m.cls := findClass_of_methodNamed B.named
  have hlocks := B.notSynchronized
  have hk0 := hts (.fieldLink R_M 24 "SurplusMatch$Matching" "orderDuals" "[I") (List.mem_cons_of_mem _ (w0 114 rfl))
  have hk1 : ∀ w ∈ w_M, w ∈ w_M_dualOfOrder := fun w h => List.mem_cons_of_mem _ (i_M w h)
  have hl := lv_entry ([.ref mq, .int x1]) (n := 2) (Nat.le_of_ble_eq_true rfl)
  rw [lg_entry_eq]
  generalize (lg_sl ([.ref mq, .int x1]) ++ List.replicate (2 - (lg_sl ([.ref mq, .int x1])).length) Slot.unset).toArray = ls at hl ⊢
  have hl : lv_has ls 2 [(0, .ref mq), (1, .int x1)] := hl
  refine lv_aload_n hx hb d_M_dualOfOrder_0 rfl (lv_at hl 0 rfl) ?_
  refine va_get (D := (dC, dI)) (ci := 3) (v := .ref mq5) (C := R_M) (T := F_M) (N := 10) hx hb hts hk1 hown hK hP 0 rfl rfl 4 (by decide) hk0 (fun _ h9 => h9) rfl d_M_dualOfOrder_1 ?_
  refine lv_iload_n hx hb d_M_dualOfOrder_4 rfl (lv_at hl 1 rfl) ?_
  obtain ⟨h9, hm⟩ := gd hm
  refine va_iald hx hb hK hP 5 0 rfl rfl h9 d_M_dualOfOrder_5 ?_
  cases hm
  exact W.iret hx hb hr (fun t ht hW => ⟨_, rfl, rfl, ht⟩) (fun _ h => nomatch h) d_M_dualOfOrder_6

def w_M_clearOffers : List Cond := .code y_M_clearOffers b_M_clearOffers 2 none :: W0
theorem q_M_clearOffers : y_M_clearOffers.cls = R_M ∧ y_M_clearOffers.cls ≠ "java/lang/invoke/MethodHandle" ∧ y_M_clearOffers.cls ≠ "java/lang/invoke/VarHandle" ∧ (parseMethodDescriptor y_M_clearOffers.desc).map (fun d => d.parameters.length) = some 0 := by decide +kernel
def L_M_clearOffers_2 (N : Nat)  (K : Int32 → (Nat → Int32) → Option (Nat → Int32)) : Nat → Int32 → (Nat → Int32) → Option (Nat → Int32)
  | 0, _, _ => none
  | n + 1, y1a, m_gainsa =>
    (if 100 ≤ y1a then
    K y1a m_gainsa
   else
    (if y1a < 0 ∨ 100 ≤ y1a.toNatClampNeg then none else
    L_M_clearOffers_2 N  K n (y1a + 1) (upd m_gainsa y1a.toNatClampNeg 0)))
def m_M_clearOffers (N : Nat) (m_gains : Nat → Int32) : Option (Nat → Int32) :=
  L_M_clearOffers_2 N  (fun y1a m_gainsa =>
  some m_gainsa) N 0 m_gains
set_option maxHeartbeats 4000000 in
set_option maxRecDepth 100000 in
theorem c_M_clearOffers (l : Launch) (dC : Nat → ClassId) (dI : Nat → Nat → Nat) (cI : ClassId) (mq mq1 mq2 mq3 mq4 mq5 : Nat) (sz : Nat) (m_gains : Nat → Int32) (m_best : Nat → Int32) (m_chosen : Nat → Int32) (m_pieceDuals : Nat → Int32) (m_orderDuals : Nat → Int32) (m_pieceCount : Int32) (m_orderCount : Int32) (m_pairs : Int32) (m_worthSum : Int32) (m_upToDate : Int32)  (N : Nat) (res : (Nat → Int32)) (hm : m_M_clearOffers N m_gains = some res) : Met l y_M_clearOffers w_M_clearOffers ({ frames := 0, cells := 0, slots := 0, locals := 0 } : Room) (va_Pc [.ref mq] (fun U => U.heap.size = sz ∧ va_P (dC, dI) classes [(mq, .inr (3, [.ref mq1, .ref mq2, .ref mq3, .ref mq4, .ref mq5, .int m_pieceCount, .int m_orderCount, .int m_pairs, .int m_worthSum, .int m_upToDate])), (mq1, .inl (cI, 100, .inl m_gains)), (mq2, .inl (cI, 11264, .inl m_best)), (mq3, .inl (cI, 10, .inl m_chosen)), (mq4, .inl (cI, 10, .inl m_pieceDuals)), (mq5, .inl (cI, 10, .inl m_orderDuals))] U.heap ∧ va_K (dC, dI) classes [(cI, .int)] U ∧ va_D (fun _ => True) [(mq, .inr (3, [.ref mq1, .ref mq2, .ref mq3, .ref mq4, .ref mq5, .int m_pieceCount, .int m_orderCount, .int m_pairs, .int m_worthSum, .int m_upToDate])), (mq1, .inl (cI, 100, .inl m_gains)), (mq2, .inl (cI, 11264, .inl m_best)), (mq3, .inl (cI, 10, .inl m_chosen)), (mq4, .inl (cI, 10, .inl m_pieceDuals)), (mq5, .inl (cI, 10, .inl m_orderDuals))] ∧ nw U)) (va_Qv (fun _ : Unit => True) (fun _ t => va_P (dC, dI) classes [(mq, .inr (3, [.ref mq1, .ref mq2, .ref mq3, .ref mq4, .ref mq5, .int m_pieceCount, .int m_orderCount, .int m_pairs, .int m_worthSum, .int m_upToDate])), (mq1, .inl (cI, 100, .inl res)), (mq2, .inl (cI, 11264, .inl m_best)), (mq3, .inl (cI, 10, .inl m_chosen)), (mq4, .inl (cI, 10, .inl m_pieceDuals)), (mq5, .inl (cI, 10, .inl m_orderDuals))] t.heap ∧ va_K (dC, dI) classes [(cI, .int)] t ∧ va_D (va_A [(mq, .inr (3, [.ref mq1, .ref mq2, .ref mq3, .ref mq4, .ref mq5, .int m_pieceCount, .int m_orderCount, .int m_pairs, .int m_worthSum, .int m_upToDate])), (mq1, .inl (cI, 100, .inl m_gains)), (mq2, .inl (cI, 11264, .inl m_best)), (mq3, .inl (cI, 10, .inl m_chosen)), (mq4, .inl (cI, 10, .inl m_pieceDuals)), (mq5, .inl (cI, 10, .inl m_orderDuals))] sz) [(mq, .inr (3, [.ref mq1, .ref mq2, .ref mq3, .ref mq4, .ref mq5, .int m_pieceCount, .int m_orderCount, .int m_pairs, .int m_worthSum, .int m_upToDate])), (mq1, .inl (cI, 100, .inl res)), (mq2, .inl (cI, 11264, .inl m_best)), (mq3, .inl (cI, 10, .inl m_chosen)), (mq4, .inl (cI, 10, .inl m_pieceDuals)), (mq5, .inl (cI, 10, .inl m_orderDuals))]) (va_A [(mq, .inr (3, [.ref mq1, .ref mq2, .ref mq3, .ref mq4, .ref mq5, .int m_pieceCount, .int m_orderCount, .int m_pairs, .int m_worthSum, .int m_upToDate])), (mq1, .inl (cI, 100, .inl m_gains)), (mq2, .inl (cI, 11264, .inl m_best)), (mq3, .inl (cI, 10, .inl m_chosen)), (mq4, .inl (cI, 10, .inl m_pieceDuals)), (mq5, .inl (cI, 10, .inl m_orderDuals))] sz)) 0 0 (va_A [(mq, .inr (3, [.ref mq1, .ref mq2, .ref mq3, .ref mq4, .ref mq5, .int m_pieceCount, .int m_orderCount, .int m_pairs, .int m_worthSum, .int m_upToDate])), (mq1, .inl (cI, 100, .inl m_gains)), (mq2, .inl (cI, 11264, .inl m_best)), (mq3, .inl (cI, 10, .inl m_chosen)), (mq4, .inl (cI, 10, .inl m_pieceDuals)), (mq5, .inl (cI, 10, .inl m_orderDuals))] sz) := by
  unfold m_M_clearOffers at hm
  refine Met.ofW (cc := b_M_clearOffers) (maxL := 2) (ret := none) (by decide) rfl ?_
  intro p e s m args below meth c s₁ B hml hv
  obtain ⟨rfl, hsz, hP, hK, hD0, hN⟩ := hv
  have hx := B.exec
  have hb := B.bytes
  have hr := B.returns
  have hts := atoms_spec (ws := w_M_clearOffers) B.pre
  have hown : s.vm.findClass R_M = some m.cls := findClass_of_methodNamed B.named
  have hlocks := B.notSynchronized
  subst hsz
  have hD := hD0.self (sz := s.heap.size)
  generalize hAe : va_A [(mq, .inr (3, [.ref mq1, .ref mq2, .ref mq3, .ref mq4, .ref mq5, .int m_pieceCount, .int m_orderCount, .int m_pairs, .int m_worthSum, .int m_upToDate])), (mq1, .inl (cI, 100, .inl m_gains)), (mq2, .inl (cI, 11264, .inl m_best)), (mq3, .inl (cI, 10, .inl m_chosen)), (mq4, .inl (cI, 10, .inl m_pieceDuals)), (mq5, .inl (cI, 10, .inl m_orderDuals))] s.heap.size = A at hD ⊢
  have hA : ∀ q : Nat, s.heap.size ≤ q → A q := fun q h => by rw [← hAe]; exact Or.inr h
  have hS : va_S A s.heap s.heap [] := va_S.rf
  have hk0 := hts (.fieldLink R_M 9 "SurplusMatch$Matching" "gains" "[I") (List.mem_cons_of_mem _ (w0 110 rfl))
  have hk1 : ∀ w ∈ w_M, w ∈ w_M_clearOffers := fun w h => List.mem_cons_of_mem _ (i_M w h)
  have hl := lv_entry ([.ref mq]) (n := 2) (Nat.le_of_ble_eq_true rfl)
  rw [lg_entry_eq]
  generalize (lg_sl ([.ref mq]) ++ List.replicate (2 - (lg_sl ([.ref mq])).length) Slot.unset).toArray = ls at hl ⊢
  have hl : lv_has ls 2 [(0, .ref mq)] := hl
  refine lv_iconst (v := 0) hx hb d_M_clearOffers_0 (by decide) ?_
  refine lv_istore_n (lv' := [(1, .int 0), (0, .ref mq)]) hx hb d_M_clearOffers_1 rfl hl (by decide) rfl (fun ls hl => ?_)
  have key2 : ∀ (K : Int32 → (Nat → Int32) → Option (Nat → Int32)) (_ : ∀ (y1a : Int32) (m_gainsa : Nat → Int32) (H : Heap) (locs : List Loc) (ls : Array Slot), lv_has ls 2 [(0, .ref mq), (1, .int y1a)] → va_P (dC, dI) classes [(mq, .inr (3, [.ref mq1, .ref mq2, .ref mq3, .ref mq4, .ref mq5, .int m_pieceCount, .int m_orderCount, .int m_pairs, .int m_worthSum, .int m_upToDate])), (mq1, .inl (cI, 100, .inl m_gainsa)), (mq2, .inl (cI, 11264, .inl m_best)), (mq3, .inl (cI, 10, .inl m_chosen)), (mq4, .inl (cI, 10, .inl m_pieceDuals)), (mq5, .inl (cI, 10, .inl m_orderDuals))] H → va_D A [(mq, .inr (3, [.ref mq1, .ref mq2, .ref mq3, .ref mq4, .ref mq5, .int m_pieceCount, .int m_orderCount, .int m_pairs, .int m_worthSum, .int m_upToDate])), (mq1, .inl (cI, 100, .inl m_gainsa)), (mq2, .inl (cI, 11264, .inl m_best)), (mq3, .inl (cI, 10, .inl m_chosen)), (mq4, .inl (cI, 10, .inl m_pieceDuals)), (mq5, .inl (cI, 10, .inl m_orderDuals))] → va_S A s.heap H locs → K y1a m_gainsa = some res → W p l e (headSpec w_M_clearOffers ({ frames := 0, cells := 0, slots := 0, locals := 0 } : Room)).room s m ([.ref mq] : List Value).toArray below meth c H locs 0 0 (MQ below (va_Qv (fun _ : Unit => True) (fun _ t => va_P (dC, dI) classes [(mq, .inr (3, [.ref mq1, .ref mq2, .ref mq3, .ref mq4, .ref mq5, .int m_pieceCount, .int m_orderCount, .int m_pairs, .int m_worthSum, .int m_upToDate])), (mq1, .inl (cI, 100, .inl res)), (mq2, .inl (cI, 11264, .inl m_best)), (mq3, .inl (cI, 10, .inl m_chosen)), (mq4, .inl (cI, 10, .inl m_pieceDuals)), (mq5, .inl (cI, 10, .inl m_orderDuals))] t.heap ∧ va_K (dC, dI) classes [(cI, .int)] t ∧ va_D A [(mq, .inr (3, [.ref mq1, .ref mq2, .ref mq3, .ref mq4, .ref mq5, .int m_pieceCount, .int m_orderCount, .int m_pairs, .int m_worthSum, .int m_upToDate])), (mq1, .inl (cI, 100, .inl res)), (mq2, .inl (cI, 11264, .inl m_best)), (mq3, .inl (cI, 10, .inl m_chosen)), (mq4, .inl (cI, 10, .inl m_pieceDuals)), (mq5, .inl (cI, 10, .inl m_orderDuals))]) A) ([.ref mq] : List Value).toArray s 0 0 A) (F0 m 24 ls [])) (n : Nat) (y1a : Int32) (m_gainsa : Nat → Int32) (H : Heap) (locs : List Loc) (ls : Array Slot), lv_has ls 2 [(0, .ref mq), (1, .int y1a)] → va_P (dC, dI) classes [(mq, .inr (3, [.ref mq1, .ref mq2, .ref mq3, .ref mq4, .ref mq5, .int m_pieceCount, .int m_orderCount, .int m_pairs, .int m_worthSum, .int m_upToDate])), (mq1, .inl (cI, 100, .inl m_gainsa)), (mq2, .inl (cI, 11264, .inl m_best)), (mq3, .inl (cI, 10, .inl m_chosen)), (mq4, .inl (cI, 10, .inl m_pieceDuals)), (mq5, .inl (cI, 10, .inl m_orderDuals))] H → va_D A [(mq, .inr (3, [.ref mq1, .ref mq2, .ref mq3, .ref mq4, .ref mq5, .int m_pieceCount, .int m_orderCount, .int m_pairs, .int m_worthSum, .int m_upToDate])), (mq1, .inl (cI, 100, .inl m_gainsa)), (mq2, .inl (cI, 11264, .inl m_best)), (mq3, .inl (cI, 10, .inl m_chosen)), (mq4, .inl (cI, 10, .inl m_pieceDuals)), (mq5, .inl (cI, 10, .inl m_orderDuals))] → va_S A s.heap H locs → L_M_clearOffers_2 N  K n y1a m_gainsa = some res → W p l e (headSpec w_M_clearOffers ({ frames := 0, cells := 0, slots := 0, locals := 0 } : Room)).room s m ([.ref mq] : List Value).toArray below meth c H locs 0 0 (MQ below (va_Qv (fun _ : Unit => True) (fun _ t => va_P (dC, dI) classes [(mq, .inr (3, [.ref mq1, .ref mq2, .ref mq3, .ref mq4, .ref mq5, .int m_pieceCount, .int m_orderCount, .int m_pairs, .int m_worthSum, .int m_upToDate])), (mq1, .inl (cI, 100, .inl res)), (mq2, .inl (cI, 11264, .inl m_best)), (mq3, .inl (cI, 10, .inl m_chosen)), (mq4, .inl (cI, 10, .inl m_pieceDuals)), (mq5, .inl (cI, 10, .inl m_orderDuals))] t.heap ∧ va_K (dC, dI) classes [(cI, .int)] t ∧ va_D A [(mq, .inr (3, [.ref mq1, .ref mq2, .ref mq3, .ref mq4, .ref mq5, .int m_pieceCount, .int m_orderCount, .int m_pairs, .int m_worthSum, .int m_upToDate])), (mq1, .inl (cI, 100, .inl res)), (mq2, .inl (cI, 11264, .inl m_best)), (mq3, .inl (cI, 10, .inl m_chosen)), (mq4, .inl (cI, 10, .inl m_pieceDuals)), (mq5, .inl (cI, 10, .inl m_orderDuals))]) A) ([.ref mq] : List Value).toArray s 0 0 A) (F0 m 2 ls []) := by
    intro K hK2 n
    induction n with
    | zero => intro y1a m_gainsa H locs ls hl hP hD hS hm; exact absurd hm (by simp [L_M_clearOffers_2])
    | succ n ih2 =>
      intro y1a m_gainsa H locs ls hl hP hD hS hm
      rw [L_M_clearOffers_2] at hm
      refine lv_iload_n hx hb d_M_clearOffers_2 rfl (lv_at hl 1 rfl) ?_
      refine lv_aload_n hx hb d_M_clearOffers_3 rfl (lv_at hl 0 rfl) ?_
      refine va_get (D := (dC, dI)) (ci := 3) (v := .ref mq1) (C := R_M) (T := F_M) (N := 10) hx hb hts hk1 hown hK hP 0 rfl rfl 0 (by decide) hk0 (fun _ h9 => h9) rfl d_M_clearOffers_4 ?_
      refine va_alen hx hb hK hP 1 0 rfl (ty := .int) rfl (v := 100) rfl d_M_clearOffers_7 ?_
      refine lv_icmp_ge (tgt := 24) hx hb d_M_clearOffers_8 (by decide) (fun c9 => ?_) (fun c9 => ?_)
      · replace hm := if_t c9 hm
        have hl : lv_has ls 2 [(0, .ref mq), (1, .int y1a)] := lv_sub hl [0, 1] rfl
        exact hK2 y1a m_gainsa _ _ ls hl hP hD hS hm
      · replace hm := if_f c9 hm
        refine lv_aload_n hx hb d_M_clearOffers_11 rfl (lv_at hl 0 rfl) ?_
        refine va_get (D := (dC, dI)) (ci := 3) (v := .ref mq1) (C := R_M) (T := F_M) (N := 10) hx hb hts hk1 hown hK hP 0 rfl rfl 0 (by decide) hk0 (fun _ h9 => h9) rfl d_M_clearOffers_12 ?_
        refine lv_iload_n hx hb d_M_clearOffers_15 rfl (lv_at hl 1 rfl) ?_
        refine lv_iconst (v := 0) hx hb d_M_clearOffers_16 (by decide) ?_
        obtain ⟨h9, hm⟩ := gd hm
        refine va_iast hx hb hK hP hD hS 1 0 rfl rfl h9 d_M_clearOffers_17 (fun H locs hP hD hS => ?_)
        have hP : va_P (dC, dI) classes [(mq, .inr (3, [.ref mq1, .ref mq2, .ref mq3, .ref mq4, .ref mq5, .int m_pieceCount, .int m_orderCount, .int m_pairs, .int m_worthSum, .int m_upToDate])), (mq1, .inl (cI, 100, .inl (upd m_gainsa y1a.toNatClampNeg 0))), (mq2, .inl (cI, 11264, .inl m_best)), (mq3, .inl (cI, 10, .inl m_chosen)), (mq4, .inl (cI, 10, .inl m_pieceDuals)), (mq5, .inl (cI, 10, .inl m_orderDuals))] H := hP
        have hD : va_D A [(mq, .inr (3, [.ref mq1, .ref mq2, .ref mq3, .ref mq4, .ref mq5, .int m_pieceCount, .int m_orderCount, .int m_pairs, .int m_worthSum, .int m_upToDate])), (mq1, .inl (cI, 100, .inl (upd m_gainsa y1a.toNatClampNeg 0))), (mq2, .inl (cI, 11264, .inl m_best)), (mq3, .inl (cI, 10, .inl m_chosen)), (mq4, .inl (cI, 10, .inl m_pieceDuals)), (mq5, .inl (cI, 10, .inl m_orderDuals))] := hD
        refine lv_iinc (v := (y1a + 1)) (lv' := [(1, .int (y1a + 1)), (0, .ref mq)]) hx hb d_M_clearOffers_18 hl (k := 1) rfl rfl (by decide) rfl (fun ls hl => ?_)
        refine lv_goto (tgt := 2) hx hb d_M_clearOffers_21 (by decide) ?_
        have hl : lv_has ls 2 [(0, .ref mq), (1, .int (y1a + 1))] := lv_sub hl [1, 0] rfl
        exact ih2 (y1a + 1) (upd m_gainsa y1a.toNatClampNeg 0) _ _ ls hl hP hD hS hm
  have hl : lv_has ls 2 [(0, .ref mq), (1, .int 0)] := lv_sub hl [1, 0] rfl
  refine key2 _ (fun y1a m_gainsa H locs ls hl hP hD hS hm => ?_) N 0 m_gains _ _ ls hl hP hD hS hm
  try dsimp only at hm
  cases hm
  refine W.widen (k := 0) (n := 0) (Nat.le_of_ble_eq_true rfl) (Nat.le_of_ble_eq_true rfl) ?_
  exact W.vret hx hb hr (fun t ht hW => ⟨⟨(), rfl, trivial, by rw [ht]; exact hP, va_K.moved hW.alike hK, hD⟩, hS.F ht⟩) hS.2.2 d_M_clearOffers_24

def w_M_offer : List Cond := .code y_M_offer b_M_offer 4 none :: W0
theorem q_M_offer : y_M_offer.cls = R_M ∧ y_M_offer.cls ≠ "java/lang/invoke/MethodHandle" ∧ y_M_offer.cls ≠ "java/lang/invoke/VarHandle" ∧ (parseMethodDescriptor y_M_offer.desc).map (fun d => d.parameters.length) = some 3 := by decide +kernel
def m_M_offer (m_gains : Nat → Int32) (x1 : Int32) (x2 : Int32) (x3 : Int32) : Option (Nat → Int32) :=
  ((m_S_pairIndex x1 x2).bind fun r1 =>
  (if r1 < 0 ∨ 100 ≤ r1.toNatClampNeg then none else
  some (upd m_gains r1.toNatClampNeg ((x3 * 16) + 1))))
set_option maxHeartbeats 4000000 in
set_option maxRecDepth 100000 in
theorem c_M_offer (l : Launch) (dC : Nat → ClassId) (dI : Nat → Nat → Nat) (cI : ClassId) (mq mq1 mq2 mq3 mq4 mq5 : Nat) (sz : Nat) (m_gains : Nat → Int32) (m_best : Nat → Int32) (m_chosen : Nat → Int32) (m_pieceDuals : Nat → Int32) (m_orderDuals : Nat → Int32) (m_pieceCount : Int32) (m_orderCount : Int32) (m_pairs : Int32) (m_worthSum : Int32) (m_upToDate : Int32) (x1 : Int32) (x2 : Int32) (x3 : Int32) (N : Nat) (res : (Nat → Int32)) (hm : m_M_offer m_gains x1 x2 x3 = some res) : Met l y_M_offer w_M_offer ({ frames := 1, cells := 0, slots := 0, locals := 21 } : Room) (va_Pc [.ref mq, .int x1, .int x2, .int x3] (fun U => U.heap.size = sz ∧ va_P (dC, dI) classes [(mq, .inr (3, [.ref mq1, .ref mq2, .ref mq3, .ref mq4, .ref mq5, .int m_pieceCount, .int m_orderCount, .int m_pairs, .int m_worthSum, .int m_upToDate])), (mq1, .inl (cI, 100, .inl m_gains)), (mq2, .inl (cI, 11264, .inl m_best)), (mq3, .inl (cI, 10, .inl m_chosen)), (mq4, .inl (cI, 10, .inl m_pieceDuals)), (mq5, .inl (cI, 10, .inl m_orderDuals))] U.heap ∧ va_K (dC, dI) classes [(cI, .int)] U ∧ va_D (fun _ => True) [(mq, .inr (3, [.ref mq1, .ref mq2, .ref mq3, .ref mq4, .ref mq5, .int m_pieceCount, .int m_orderCount, .int m_pairs, .int m_worthSum, .int m_upToDate])), (mq1, .inl (cI, 100, .inl m_gains)), (mq2, .inl (cI, 11264, .inl m_best)), (mq3, .inl (cI, 10, .inl m_chosen)), (mq4, .inl (cI, 10, .inl m_pieceDuals)), (mq5, .inl (cI, 10, .inl m_orderDuals))] ∧ nw U)) (va_Qv (fun _ : Unit => True) (fun _ t => va_P (dC, dI) classes [(mq, .inr (3, [.ref mq1, .ref mq2, .ref mq3, .ref mq4, .ref mq5, .int m_pieceCount, .int m_orderCount, .int m_pairs, .int m_worthSum, .int m_upToDate])), (mq1, .inl (cI, 100, .inl res)), (mq2, .inl (cI, 11264, .inl m_best)), (mq3, .inl (cI, 10, .inl m_chosen)), (mq4, .inl (cI, 10, .inl m_pieceDuals)), (mq5, .inl (cI, 10, .inl m_orderDuals))] t.heap ∧ va_K (dC, dI) classes [(cI, .int)] t ∧ va_D (va_A [(mq, .inr (3, [.ref mq1, .ref mq2, .ref mq3, .ref mq4, .ref mq5, .int m_pieceCount, .int m_orderCount, .int m_pairs, .int m_worthSum, .int m_upToDate])), (mq1, .inl (cI, 100, .inl m_gains)), (mq2, .inl (cI, 11264, .inl m_best)), (mq3, .inl (cI, 10, .inl m_chosen)), (mq4, .inl (cI, 10, .inl m_pieceDuals)), (mq5, .inl (cI, 10, .inl m_orderDuals))] sz) [(mq, .inr (3, [.ref mq1, .ref mq2, .ref mq3, .ref mq4, .ref mq5, .int m_pieceCount, .int m_orderCount, .int m_pairs, .int m_worthSum, .int m_upToDate])), (mq1, .inl (cI, 100, .inl res)), (mq2, .inl (cI, 11264, .inl m_best)), (mq3, .inl (cI, 10, .inl m_chosen)), (mq4, .inl (cI, 10, .inl m_pieceDuals)), (mq5, .inl (cI, 10, .inl m_orderDuals))]) (va_A [(mq, .inr (3, [.ref mq1, .ref mq2, .ref mq3, .ref mq4, .ref mq5, .int m_pieceCount, .int m_orderCount, .int m_pairs, .int m_worthSum, .int m_upToDate])), (mq1, .inl (cI, 100, .inl m_gains)), (mq2, .inl (cI, 11264, .inl m_best)), (mq3, .inl (cI, 10, .inl m_chosen)), (mq4, .inl (cI, 10, .inl m_pieceDuals)), (mq5, .inl (cI, 10, .inl m_orderDuals))] sz)) 0 0 (va_A [(mq, .inr (3, [.ref mq1, .ref mq2, .ref mq3, .ref mq4, .ref mq5, .int m_pieceCount, .int m_orderCount, .int m_pairs, .int m_worthSum, .int m_upToDate])), (mq1, .inl (cI, 100, .inl m_gains)), (mq2, .inl (cI, 11264, .inl m_best)), (mq3, .inl (cI, 10, .inl m_chosen)), (mq4, .inl (cI, 10, .inl m_pieceDuals)), (mq5, .inl (cI, 10, .inl m_orderDuals))] sz) := by
  unfold m_M_offer at hm
  refine Met.ofW (cc := b_M_offer) (maxL := 4) (ret := none) (by decide) rfl ?_
  intro p e s m args below meth c s₁ B hml hv
  obtain ⟨rfl, hsz, hP, hK, hD0, hN⟩ := hv
  have hx := B.exec
  have hb := B.bytes
  have hr := B.returns
  have hts := atoms_spec (ws := w_M_offer) B.pre
  have hown : s.vm.findClass R_M = some m.cls := findClass_of_methodNamed B.named
  have hlocks := B.notSynchronized
  subst hsz
  have hD := hD0.self (sz := s.heap.size)
  generalize hAe : va_A [(mq, .inr (3, [.ref mq1, .ref mq2, .ref mq3, .ref mq4, .ref mq5, .int m_pieceCount, .int m_orderCount, .int m_pairs, .int m_worthSum, .int m_upToDate])), (mq1, .inl (cI, 100, .inl m_gains)), (mq2, .inl (cI, 11264, .inl m_best)), (mq3, .inl (cI, 10, .inl m_chosen)), (mq4, .inl (cI, 10, .inl m_pieceDuals)), (mq5, .inl (cI, 10, .inl m_orderDuals))] s.heap.size = A at hD ⊢
  have hA : ∀ q : Nat, s.heap.size ≤ q → A q := fun q h => by rw [← hAe]; exact Or.inr h
  have hS : va_S A s.heap s.heap [] := va_S.rf
  have hk0 := hts (.fieldLink R_M 9 "SurplusMatch$Matching" "gains" "[I") (List.mem_cons_of_mem _ (w0 110 rfl))
  have hk1 : ∀ w ∈ w_M, w ∈ w_M_offer := fun w h => List.mem_cons_of_mem _ (i_M w h)
  have hk2 := hts (.initialized R_S) (List.mem_cons_of_mem _ (w0 28 rfl))
  have hk3 := hts (.static y_S_pairIndex) (List.mem_cons_of_mem _ (w0 228 rfl))
  have hl := lv_entry ([.ref mq, .int x1, .int x2, .int x3]) (n := 4) (Nat.le_of_ble_eq_true rfl)
  rw [lg_entry_eq]
  generalize (lg_sl ([.ref mq, .int x1, .int x2, .int x3]) ++ List.replicate (4 - (lg_sl ([.ref mq, .int x1, .int x2, .int x3])).length) Slot.unset).toArray = ls at hl ⊢
  have hl : lv_has ls 4 [(0, .ref mq), (1, .int x1), (2, .int x2), (3, .int x3)] := hl
  refine lv_aload_n hx hb d_M_offer_0 rfl (lv_at hl 0 rfl) ?_
  refine va_get (D := (dC, dI)) (ci := 3) (v := .ref mq1) (C := R_M) (T := F_M) (N := 10) hx hb hts hk1 hown hK hP 0 rfl rfl 0 (by decide) hk0 (fun _ h9 => h9) rfl d_M_offer_1 ?_
  refine lv_iload_n hx hb d_M_offer_4 rfl (lv_at hl 1 rfl) ?_
  refine lv_iload_n hx hb d_M_offer_5 rfl (lv_at hl 2 rfl) ?_
  obtain ⟨r1, hc, hm⟩ := bd hm
  try dsimp only at hm
  refine vp_callSi (va_Run.run (va_runSN (As := [.int x1, .int x2]) (rest := [.ref mq1]) ⟨hx, hb, hml, hown, hts⟩ (c_S_pairIndex l dC dI cI x1 x2 N r1 hc) ⟨va_cnB 2 hts (gN (w0 229 rfl)) rfl rfl rfl hN hk2 q_S_pairIndex.2 ⟨Nat.le_of_ble_eq_true rfl, Nat.le_of_ble_eq_true rfl⟩, hk3, trivial⟩ ro_pre0 rfl rfl hl.1 rfl (lv_room (Nat.le_of_ble_eq_true rfl)) d_M_offer_6 ⟨Nat.le_of_ble_eq_true rfl, Nat.le_of_ble_eq_true rfl⟩)) (fun r9 hr9 => ?_)
  subst hr9
  refine lv_iload_n hx hb d_M_offer_9 rfl (lv_at hl 3 rfl) ?_
  refine lv_bipush (v := 16) hx hb d_M_offer_10 (by decide) ?_
  refine lv_imul hx hb d_M_offer_12 ?_
  refine lv_iconst (v := 1) hx hb d_M_offer_13 (by decide) ?_
  refine lv_iadd hx hb d_M_offer_14 ?_
  obtain ⟨h9, hm⟩ := gd hm
  refine va_iast hx hb hK hP hD hS 1 0 rfl rfl h9 d_M_offer_15 (fun H locs hP hD hS => ?_)
  have hP : va_P (dC, dI) classes [(mq, .inr (3, [.ref mq1, .ref mq2, .ref mq3, .ref mq4, .ref mq5, .int m_pieceCount, .int m_orderCount, .int m_pairs, .int m_worthSum, .int m_upToDate])), (mq1, .inl (cI, 100, .inl (upd m_gains r1.toNatClampNeg ((x3 * 16) + 1)))), (mq2, .inl (cI, 11264, .inl m_best)), (mq3, .inl (cI, 10, .inl m_chosen)), (mq4, .inl (cI, 10, .inl m_pieceDuals)), (mq5, .inl (cI, 10, .inl m_orderDuals))] H := hP
  have hD : va_D A [(mq, .inr (3, [.ref mq1, .ref mq2, .ref mq3, .ref mq4, .ref mq5, .int m_pieceCount, .int m_orderCount, .int m_pairs, .int m_worthSum, .int m_upToDate])), (mq1, .inl (cI, 100, .inl (upd m_gains r1.toNatClampNeg ((x3 * 16) + 1)))), (mq2, .inl (cI, 11264, .inl m_best)), (mq3, .inl (cI, 10, .inl m_chosen)), (mq4, .inl (cI, 10, .inl m_pieceDuals)), (mq5, .inl (cI, 10, .inl m_orderDuals))] := hD
  cases hm
  refine W.widen (k := 0) (n := 0) (Nat.le_of_ble_eq_true rfl) (Nat.le_of_ble_eq_true rfl) ?_
  exact W.vret hx hb hr (fun t ht hW => ⟨⟨(), rfl, trivial, by rw [ht]; exact hP, va_K.moved hW.alike hK, hD⟩, hS.F ht⟩) hS.2.2 d_M_offer_16

def w_M_improveRow : List Cond := .code y_M_improveRow b_M_improveRow 10 none :: W0
theorem q_M_improveRow : y_M_improveRow.cls = R_M ∧ y_M_improveRow.cls ≠ "java/lang/invoke/MethodHandle" ∧ y_M_improveRow.cls ≠ "java/lang/invoke/VarHandle" ∧ (parseMethodDescriptor y_M_improveRow.desc).map (fun d => d.parameters.length) = some 3 := by decide +kernel
def L_M_improveRow_32 (N : Nat)  (K : Int32 → Int32 → Int32 → Int32 → Int32 → Int32 → Int32 → Int32 → (Nat → Int32) → Option (Nat → Int32)) : Nat → Int32 → Int32 → Int32 → Int32 → Int32 → Int32 → Int32 → Int32 → (Nat → Int32) → Option (Nat → Int32)
  | 0, _, _, _, _, _, _, _, _, _ => none
  | n + 1, y1a, y2a, y3a, y4a, y5a, y6a, y7a, y8a, m_besta =>
    (if y7a ≤ y8a then
    K y1a y2a y3a y4a y5a y6a y7a y8a m_besta
   else
    (if ((y5a + y8a) - y6a) < 0 ∨ 11264 ≤ ((y5a + y8a) - y6a).toNatClampNeg then none else
    (if (y4a + y8a) < 0 ∨ 11264 ≤ (y4a + y8a).toNatClampNeg then none else
    (if (y3a + (m_besta ((y5a + y8a) - y6a).toNatClampNeg)) ≤ (m_besta (y4a + y8a).toNatClampNeg) then
      L_M_improveRow_32 N  K n y1a y2a y3a y4a y5a y6a y7a ((y8a + 1) ||| y6a) m_besta
     else
      (if (y4a + y8a) < 0 ∨ 11264 ≤ (y4a + y8a).toNatClampNeg then none else
      L_M_improveRow_32 N  K n y1a y2a y3a y4a y5a y6a y7a ((y8a + 1) ||| y6a) (upd m_besta (y4a + y8a).toNatClampNeg (y3a + (m_besta ((y5a + y8a) - y6a).toNatClampNeg))))))))
def m_M_improveRow (N : Nat) (m_best : Nat → Int32) (m_orderCount : Int32) (x1 : Int32) (x2 : Int32) (x3 : Int32) : Option (Nat → Int32) :=
  L_M_improveRow_32 N  (fun y1a y2a y3a y4a y5a y6a y7a y8a m_besta =>
  some m_besta) N x1 x2 x3 (x1 * 1024) ((x1 * 1024) - 1024) ((1 : Int32) <<< (x2 &&& 31)) ((1 : Int32) <<< (m_orderCount &&& 31)) ((1 : Int32) <<< (x2 &&& 31)) m_best
set_option maxHeartbeats 4000000 in
set_option maxRecDepth 100000 in
theorem c_M_improveRow (l : Launch) (dC : Nat → ClassId) (dI : Nat → Nat → Nat) (cI : ClassId) (mq mq1 mq2 mq3 mq4 mq5 : Nat) (sz : Nat) (m_gains : Nat → Int32) (m_best : Nat → Int32) (m_chosen : Nat → Int32) (m_pieceDuals : Nat → Int32) (m_orderDuals : Nat → Int32) (m_pieceCount : Int32) (m_orderCount : Int32) (m_pairs : Int32) (m_worthSum : Int32) (m_upToDate : Int32) (x1 : Int32) (x2 : Int32) (x3 : Int32) (N : Nat) (res : (Nat → Int32)) (hm : m_M_improveRow N m_best m_orderCount x1 x2 x3 = some res) : Met l y_M_improveRow w_M_improveRow ({ frames := 0, cells := 0, slots := 0, locals := 0 } : Room) (va_Pc [.ref mq, .int x1, .int x2, .int x3] (fun U => U.heap.size = sz ∧ va_P (dC, dI) classes [(mq, .inr (3, [.ref mq1, .ref mq2, .ref mq3, .ref mq4, .ref mq5, .int m_pieceCount, .int m_orderCount, .int m_pairs, .int m_worthSum, .int m_upToDate])), (mq1, .inl (cI, 100, .inl m_gains)), (mq2, .inl (cI, 11264, .inl m_best)), (mq3, .inl (cI, 10, .inl m_chosen)), (mq4, .inl (cI, 10, .inl m_pieceDuals)), (mq5, .inl (cI, 10, .inl m_orderDuals))] U.heap ∧ va_K (dC, dI) classes [(cI, .int)] U ∧ va_D (fun _ => True) [(mq, .inr (3, [.ref mq1, .ref mq2, .ref mq3, .ref mq4, .ref mq5, .int m_pieceCount, .int m_orderCount, .int m_pairs, .int m_worthSum, .int m_upToDate])), (mq1, .inl (cI, 100, .inl m_gains)), (mq2, .inl (cI, 11264, .inl m_best)), (mq3, .inl (cI, 10, .inl m_chosen)), (mq4, .inl (cI, 10, .inl m_pieceDuals)), (mq5, .inl (cI, 10, .inl m_orderDuals))] ∧ nw U)) (va_Qv (fun _ : Unit => True) (fun _ t => va_P (dC, dI) classes [(mq, .inr (3, [.ref mq1, .ref mq2, .ref mq3, .ref mq4, .ref mq5, .int m_pieceCount, .int m_orderCount, .int m_pairs, .int m_worthSum, .int m_upToDate])), (mq1, .inl (cI, 100, .inl m_gains)), (mq2, .inl (cI, 11264, .inl res)), (mq3, .inl (cI, 10, .inl m_chosen)), (mq4, .inl (cI, 10, .inl m_pieceDuals)), (mq5, .inl (cI, 10, .inl m_orderDuals))] t.heap ∧ va_K (dC, dI) classes [(cI, .int)] t ∧ va_D (va_A [(mq, .inr (3, [.ref mq1, .ref mq2, .ref mq3, .ref mq4, .ref mq5, .int m_pieceCount, .int m_orderCount, .int m_pairs, .int m_worthSum, .int m_upToDate])), (mq1, .inl (cI, 100, .inl m_gains)), (mq2, .inl (cI, 11264, .inl m_best)), (mq3, .inl (cI, 10, .inl m_chosen)), (mq4, .inl (cI, 10, .inl m_pieceDuals)), (mq5, .inl (cI, 10, .inl m_orderDuals))] sz) [(mq, .inr (3, [.ref mq1, .ref mq2, .ref mq3, .ref mq4, .ref mq5, .int m_pieceCount, .int m_orderCount, .int m_pairs, .int m_worthSum, .int m_upToDate])), (mq1, .inl (cI, 100, .inl m_gains)), (mq2, .inl (cI, 11264, .inl res)), (mq3, .inl (cI, 10, .inl m_chosen)), (mq4, .inl (cI, 10, .inl m_pieceDuals)), (mq5, .inl (cI, 10, .inl m_orderDuals))]) (va_A [(mq, .inr (3, [.ref mq1, .ref mq2, .ref mq3, .ref mq4, .ref mq5, .int m_pieceCount, .int m_orderCount, .int m_pairs, .int m_worthSum, .int m_upToDate])), (mq1, .inl (cI, 100, .inl m_gains)), (mq2, .inl (cI, 11264, .inl m_best)), (mq3, .inl (cI, 10, .inl m_chosen)), (mq4, .inl (cI, 10, .inl m_pieceDuals)), (mq5, .inl (cI, 10, .inl m_orderDuals))] sz)) 0 0 (va_A [(mq, .inr (3, [.ref mq1, .ref mq2, .ref mq3, .ref mq4, .ref mq5, .int m_pieceCount, .int m_orderCount, .int m_pairs, .int m_worthSum, .int m_upToDate])), (mq1, .inl (cI, 100, .inl m_gains)), (mq2, .inl (cI, 11264, .inl m_best)), (mq3, .inl (cI, 10, .inl m_chosen)), (mq4, .inl (cI, 10, .inl m_pieceDuals)), (mq5, .inl (cI, 10, .inl m_orderDuals))] sz) := by
  unfold m_M_improveRow at hm
  refine Met.ofW (cc := b_M_improveRow) (maxL := 10) (ret := none) (by decide) rfl ?_
  intro p e s m args below meth c s₁ B hml hv
  obtain ⟨rfl, hsz, hP, hK, hD0, hN⟩ := hv
  have hx := B.exec
  have hb := B.bytes
  have hr := B.returns
  have hts := atoms_spec (ws := w_M_improveRow) B.pre
  have hown : s.vm.findClass R_M = some m.cls := findClass_of_methodNamed B.named
  have hlocks := B.notSynchronized
  subst hsz
  have hD := hD0.self (sz := s.heap.size)
  generalize hAe : va_A [(mq, .inr (3, [.ref mq1, .ref mq2, .ref mq3, .ref mq4, .ref mq5, .int m_pieceCount, .int m_orderCount, .int m_pairs, .int m_worthSum, .int m_upToDate])), (mq1, .inl (cI, 100, .inl m_gains)), (mq2, .inl (cI, 11264, .inl m_best)), (mq3, .inl (cI, 10, .inl m_chosen)), (mq4, .inl (cI, 10, .inl m_pieceDuals)), (mq5, .inl (cI, 10, .inl m_orderDuals))] s.heap.size = A at hD ⊢
  have hA : ∀ q : Nat, s.heap.size ≤ q → A q := fun q h => by rw [← hAe]; exact Or.inr h
  have hS : va_S A s.heap s.heap [] := va_S.rf
  have hk0 := hts (.fieldLink R_M 45 "SurplusMatch$Matching" "orderCount" "I") (List.mem_cons_of_mem _ (w0 116 rfl))
  have hk1 : ∀ w ∈ w_M, w ∈ w_M_improveRow := fun w h => List.mem_cons_of_mem _ (i_M w h)
  have hk2 := hts (.fieldLink R_M 15 "SurplusMatch$Matching" "best" "[I") (List.mem_cons_of_mem _ (w0 111 rfl))
  have hl := lv_entry ([.ref mq, .int x1, .int x2, .int x3]) (n := 10) (Nat.le_of_ble_eq_true rfl)
  rw [lg_entry_eq]
  generalize (lg_sl ([.ref mq, .int x1, .int x2, .int x3]) ++ List.replicate (10 - (lg_sl ([.ref mq, .int x1, .int x2, .int x3])).length) Slot.unset).toArray = ls at hl ⊢
  have hl : lv_has ls 10 [(0, .ref mq), (1, .int x1), (2, .int x2), (3, .int x3)] := hl
  refine lv_iload_n hx hb d_M_improveRow_0 rfl (lv_at hl 1 rfl) ?_
  refine lv_sipush (v := 1024) hx hb d_M_improveRow_1 (by decide) ?_
  refine lv_imul hx hb d_M_improveRow_4 ?_
  refine lv_istore (lv' := [(4, .int (x1 * 1024)), (0, .ref mq), (1, .int x1), (2, .int x2), (3, .int x3)]) hx hb d_M_improveRow_5 hl (by decide) rfl (fun ls hl => ?_)
  refine lv_iload hx hb d_M_improveRow_7 (lv_at hl 0 rfl) ?_
  refine lv_sipush (v := 1024) hx hb d_M_improveRow_9 (by decide) ?_
  refine lv_isub hx hb d_M_improveRow_12 ?_
  refine lv_istore (lv' := [(5, .int ((x1 * 1024) - 1024)), (4, .int (x1 * 1024)), (0, .ref mq), (1, .int x1), (2, .int x2), (3, .int x3)]) hx hb d_M_improveRow_13 hl (by decide) rfl (fun ls hl => ?_)
  refine lv_iconst (v := 1) hx hb d_M_improveRow_15 (by decide) ?_
  refine lv_iload_n hx hb d_M_improveRow_16 rfl (lv_at hl 4 rfl) ?_
  refine lv_ishl hx hb d_M_improveRow_17 ?_
  refine lv_istore (lv' := [(6, .int ((1 : Int32) <<< (x2 &&& 31))), (5, .int ((x1 * 1024) - 1024)), (4, .int (x1 * 1024)), (0, .ref mq), (1, .int x1), (2, .int x2), (3, .int x3)]) hx hb d_M_improveRow_18 hl (by decide) rfl (fun ls hl => ?_)
  refine lv_iconst (v := 1) hx hb d_M_improveRow_20 (by decide) ?_
  refine lv_aload_n hx hb d_M_improveRow_21 rfl (lv_at hl 3 rfl) ?_
  refine va_get (D := (dC, dI)) (ci := 3) (v := .int m_orderCount) (C := R_M) (T := F_M) (N := 10) hx hb hts hk1 hown hK hP 0 rfl rfl 6 (by decide) hk0 (fun _ h9 => h9) rfl d_M_improveRow_22 ?_
  refine lv_ishl hx hb d_M_improveRow_25 ?_
  refine lv_istore (lv' := [(7, .int ((1 : Int32) <<< (m_orderCount &&& 31))), (6, .int ((1 : Int32) <<< (x2 &&& 31))), (5, .int ((x1 * 1024) - 1024)), (4, .int (x1 * 1024)), (0, .ref mq), (1, .int x1), (2, .int x2), (3, .int x3)]) hx hb d_M_improveRow_26 hl (by decide) rfl (fun ls hl => ?_)
  refine lv_iload hx hb d_M_improveRow_28 (lv_at hl 1 rfl) ?_
  refine lv_istore (lv' := [(8, .int ((1 : Int32) <<< (x2 &&& 31))), (7, .int ((1 : Int32) <<< (m_orderCount &&& 31))), (6, .int ((1 : Int32) <<< (x2 &&& 31))), (5, .int ((x1 * 1024) - 1024)), (4, .int (x1 * 1024)), (0, .ref mq), (1, .int x1), (2, .int x2), (3, .int x3)]) hx hb d_M_improveRow_30 hl (by decide) rfl (fun ls hl => ?_)
  have key32 : ∀ (K : Int32 → Int32 → Int32 → Int32 → Int32 → Int32 → Int32 → Int32 → (Nat → Int32) → Option (Nat → Int32)) (_ : ∀ (y1a : Int32) (y2a : Int32) (y3a : Int32) (y4a : Int32) (y5a : Int32) (y6a : Int32) (y7a : Int32) (y8a : Int32) (m_besta : Nat → Int32) (H : Heap) (locs : List Loc) (ls : Array Slot), lv_has ls 10 [(0, .ref mq), (1, .int y1a), (2, .int y2a), (3, .int y3a), (4, .int y4a), (5, .int y5a), (6, .int y6a), (7, .int y7a), (8, .int y8a)] → va_P (dC, dI) classes [(mq, .inr (3, [.ref mq1, .ref mq2, .ref mq3, .ref mq4, .ref mq5, .int m_pieceCount, .int m_orderCount, .int m_pairs, .int m_worthSum, .int m_upToDate])), (mq1, .inl (cI, 100, .inl m_gains)), (mq2, .inl (cI, 11264, .inl m_besta)), (mq3, .inl (cI, 10, .inl m_chosen)), (mq4, .inl (cI, 10, .inl m_pieceDuals)), (mq5, .inl (cI, 10, .inl m_orderDuals))] H → va_D A [(mq, .inr (3, [.ref mq1, .ref mq2, .ref mq3, .ref mq4, .ref mq5, .int m_pieceCount, .int m_orderCount, .int m_pairs, .int m_worthSum, .int m_upToDate])), (mq1, .inl (cI, 100, .inl m_gains)), (mq2, .inl (cI, 11264, .inl m_besta)), (mq3, .inl (cI, 10, .inl m_chosen)), (mq4, .inl (cI, 10, .inl m_pieceDuals)), (mq5, .inl (cI, 10, .inl m_orderDuals))] → va_S A s.heap H locs → K y1a y2a y3a y4a y5a y6a y7a y8a m_besta = some res → W p l e (headSpec w_M_improveRow ({ frames := 0, cells := 0, slots := 0, locals := 0 } : Room)).room s m ([.ref mq, .int x1, .int x2, .int x3] : List Value).toArray below meth c H locs 0 0 (MQ below (va_Qv (fun _ : Unit => True) (fun _ t => va_P (dC, dI) classes [(mq, .inr (3, [.ref mq1, .ref mq2, .ref mq3, .ref mq4, .ref mq5, .int m_pieceCount, .int m_orderCount, .int m_pairs, .int m_worthSum, .int m_upToDate])), (mq1, .inl (cI, 100, .inl m_gains)), (mq2, .inl (cI, 11264, .inl res)), (mq3, .inl (cI, 10, .inl m_chosen)), (mq4, .inl (cI, 10, .inl m_pieceDuals)), (mq5, .inl (cI, 10, .inl m_orderDuals))] t.heap ∧ va_K (dC, dI) classes [(cI, .int)] t ∧ va_D A [(mq, .inr (3, [.ref mq1, .ref mq2, .ref mq3, .ref mq4, .ref mq5, .int m_pieceCount, .int m_orderCount, .int m_pairs, .int m_worthSum, .int m_upToDate])), (mq1, .inl (cI, 100, .inl m_gains)), (mq2, .inl (cI, 11264, .inl res)), (mq3, .inl (cI, 10, .inl m_chosen)), (mq4, .inl (cI, 10, .inl m_pieceDuals)), (mq5, .inl (cI, 10, .inl m_orderDuals))]) A) ([.ref mq, .int x1, .int x2, .int x3] : List Value).toArray s 0 0 A) (F0 m 95 ls [])) (n : Nat) (y1a : Int32) (y2a : Int32) (y3a : Int32) (y4a : Int32) (y5a : Int32) (y6a : Int32) (y7a : Int32) (y8a : Int32) (m_besta : Nat → Int32) (H : Heap) (locs : List Loc) (ls : Array Slot), lv_has ls 10 [(0, .ref mq), (1, .int y1a), (2, .int y2a), (3, .int y3a), (4, .int y4a), (5, .int y5a), (6, .int y6a), (7, .int y7a), (8, .int y8a)] → va_P (dC, dI) classes [(mq, .inr (3, [.ref mq1, .ref mq2, .ref mq3, .ref mq4, .ref mq5, .int m_pieceCount, .int m_orderCount, .int m_pairs, .int m_worthSum, .int m_upToDate])), (mq1, .inl (cI, 100, .inl m_gains)), (mq2, .inl (cI, 11264, .inl m_besta)), (mq3, .inl (cI, 10, .inl m_chosen)), (mq4, .inl (cI, 10, .inl m_pieceDuals)), (mq5, .inl (cI, 10, .inl m_orderDuals))] H → va_D A [(mq, .inr (3, [.ref mq1, .ref mq2, .ref mq3, .ref mq4, .ref mq5, .int m_pieceCount, .int m_orderCount, .int m_pairs, .int m_worthSum, .int m_upToDate])), (mq1, .inl (cI, 100, .inl m_gains)), (mq2, .inl (cI, 11264, .inl m_besta)), (mq3, .inl (cI, 10, .inl m_chosen)), (mq4, .inl (cI, 10, .inl m_pieceDuals)), (mq5, .inl (cI, 10, .inl m_orderDuals))] → va_S A s.heap H locs → L_M_improveRow_32 N  K n y1a y2a y3a y4a y5a y6a y7a y8a m_besta = some res → W p l e (headSpec w_M_improveRow ({ frames := 0, cells := 0, slots := 0, locals := 0 } : Room)).room s m ([.ref mq, .int x1, .int x2, .int x3] : List Value).toArray below meth c H locs 0 0 (MQ below (va_Qv (fun _ : Unit => True) (fun _ t => va_P (dC, dI) classes [(mq, .inr (3, [.ref mq1, .ref mq2, .ref mq3, .ref mq4, .ref mq5, .int m_pieceCount, .int m_orderCount, .int m_pairs, .int m_worthSum, .int m_upToDate])), (mq1, .inl (cI, 100, .inl m_gains)), (mq2, .inl (cI, 11264, .inl res)), (mq3, .inl (cI, 10, .inl m_chosen)), (mq4, .inl (cI, 10, .inl m_pieceDuals)), (mq5, .inl (cI, 10, .inl m_orderDuals))] t.heap ∧ va_K (dC, dI) classes [(cI, .int)] t ∧ va_D A [(mq, .inr (3, [.ref mq1, .ref mq2, .ref mq3, .ref mq4, .ref mq5, .int m_pieceCount, .int m_orderCount, .int m_pairs, .int m_worthSum, .int m_upToDate])), (mq1, .inl (cI, 100, .inl m_gains)), (mq2, .inl (cI, 11264, .inl res)), (mq3, .inl (cI, 10, .inl m_chosen)), (mq4, .inl (cI, 10, .inl m_pieceDuals)), (mq5, .inl (cI, 10, .inl m_orderDuals))]) A) ([.ref mq, .int x1, .int x2, .int x3] : List Value).toArray s 0 0 A) (F0 m 32 ls []) := by
    intro K hK32 n
    induction n with
    | zero => intro y1a y2a y3a y4a y5a y6a y7a y8a m_besta H locs ls hl hP hD hS hm; exact absurd hm (by simp [L_M_improveRow_32])
    | succ n ih32 =>
      intro y1a y2a y3a y4a y5a y6a y7a y8a m_besta H locs ls hl hP hD hS hm
      rw [L_M_improveRow_32] at hm
      refine lv_iload hx hb d_M_improveRow_32 (lv_at hl 8 rfl) ?_
      refine lv_iload hx hb d_M_improveRow_34 (lv_at hl 7 rfl) ?_
      refine lv_icmp_ge (tgt := 95) hx hb d_M_improveRow_36 (by decide) (fun c9 => ?_) (fun c9 => ?_)
      · replace hm := if_t c9 hm
        have hl : lv_has ls 10 [(0, .ref mq), (1, .int y1a), (2, .int y2a), (3, .int y3a), (4, .int y4a), (5, .int y5a), (6, .int y6a), (7, .int y7a), (8, .int y8a)] := lv_sub hl [0, 1, 2, 3, 4, 5, 6, 7, 8] rfl
        exact hK32 y1a y2a y3a y4a y5a y6a y7a y8a m_besta _ _ ls hl hP hD hS hm
      · replace hm := if_f c9 hm
        refine lv_iload_n hx hb d_M_improveRow_39 rfl (lv_at hl 3 rfl) ?_
        refine lv_aload_n hx hb d_M_improveRow_40 rfl (lv_at hl 0 rfl) ?_
        refine va_get (D := (dC, dI)) (ci := 3) (v := .ref mq2) (C := R_M) (T := F_M) (N := 10) hx hb hts hk1 hown hK hP 0 rfl rfl 1 (by decide) hk2 (fun _ h9 => h9) rfl d_M_improveRow_41 ?_
        refine lv_iload hx hb d_M_improveRow_44 (lv_at hl 5 rfl) ?_
        refine lv_iload hx hb d_M_improveRow_46 (lv_at hl 8 rfl) ?_
        refine lv_iadd hx hb d_M_improveRow_48 ?_
        refine lv_iload hx hb d_M_improveRow_49 (lv_at hl 6 rfl) ?_
        refine lv_isub hx hb d_M_improveRow_51 ?_
        obtain ⟨h9, hm⟩ := gd hm
        refine va_iald hx hb hK hP 2 0 rfl rfl h9 d_M_improveRow_52 ?_
        refine lv_iadd hx hb d_M_improveRow_53 ?_
        refine lv_istore (lv' := [(9, .int (y3a + (m_besta ((y5a + y8a) - y6a).toNatClampNeg))), (0, .ref mq), (1, .int y1a), (2, .int y2a), (3, .int y3a), (4, .int y4a), (5, .int y5a), (6, .int y6a), (7, .int y7a), (8, .int y8a)]) hx hb d_M_improveRow_54 hl (by decide) rfl (fun ls hl => ?_)
        refine lv_iload hx hb d_M_improveRow_56 (lv_at hl 0 rfl) ?_
        refine lv_aload_n hx hb d_M_improveRow_58 rfl (lv_at hl 1 rfl) ?_
        refine va_get (D := (dC, dI)) (ci := 3) (v := .ref mq2) (C := R_M) (T := F_M) (N := 10) hx hb hts hk1 hown hK hP 0 rfl rfl 1 (by decide) hk2 (fun _ h9 => h9) rfl d_M_improveRow_59 ?_
        refine lv_iload hx hb d_M_improveRow_62 (lv_at hl 5 rfl) ?_
        refine lv_iload hx hb d_M_improveRow_64 (lv_at hl 9 rfl) ?_
        refine lv_iadd hx hb d_M_improveRow_66 ?_
        obtain ⟨h9, hm⟩ := gd hm
        refine va_iald hx hb hK hP 2 0 rfl rfl h9 d_M_improveRow_67 ?_
        refine lv_icmp_le (tgt := 83) hx hb d_M_improveRow_68 (by decide) (fun c9 => ?_) (fun c9 => ?_)
        · replace hm := if_t c9 hm
          refine lv_iload hx hb d_M_improveRow_83 (lv_at hl 9 rfl) ?_
          refine lv_iconst (v := 1) hx hb d_M_improveRow_85 (by decide) ?_
          refine lv_iadd hx hb d_M_improveRow_86 ?_
          refine lv_iload hx hb d_M_improveRow_87 (lv_at hl 7 rfl) ?_
          refine lv_ior hx hb d_M_improveRow_89 ?_
          refine lv_istore (lv' := [(8, .int ((y8a + 1) ||| y6a)), (9, .int (y3a + (m_besta ((y5a + y8a) - y6a).toNatClampNeg))), (0, .ref mq), (1, .int y1a), (2, .int y2a), (3, .int y3a), (4, .int y4a), (5, .int y5a), (6, .int y6a), (7, .int y7a)]) hx hb d_M_improveRow_90 hl (by decide) rfl (fun ls hl => ?_)
          refine lv_goto (tgt := 32) hx hb d_M_improveRow_92 (by decide) ?_
          have hl : lv_has ls 10 [(0, .ref mq), (1, .int y1a), (2, .int y2a), (3, .int y3a), (4, .int y4a), (5, .int y5a), (6, .int y6a), (7, .int y7a), (8, .int ((y8a + 1) ||| y6a))] := lv_sub hl [2, 3, 4, 5, 6, 7, 8, 9, 0] rfl
          exact ih32 y1a y2a y3a y4a y5a y6a y7a ((y8a + 1) ||| y6a) m_besta _ _ ls hl hP hD hS hm
        · replace hm := if_f c9 hm
          refine lv_aload_n hx hb d_M_improveRow_71 rfl (lv_at hl 1 rfl) ?_
          refine va_get (D := (dC, dI)) (ci := 3) (v := .ref mq2) (C := R_M) (T := F_M) (N := 10) hx hb hts hk1 hown hK hP 0 rfl rfl 1 (by decide) hk2 (fun _ h9 => h9) rfl d_M_improveRow_72 ?_
          refine lv_iload hx hb d_M_improveRow_75 (lv_at hl 5 rfl) ?_
          refine lv_iload hx hb d_M_improveRow_77 (lv_at hl 9 rfl) ?_
          refine lv_iadd hx hb d_M_improveRow_79 ?_
          refine lv_iload hx hb d_M_improveRow_80 (lv_at hl 0 rfl) ?_
          obtain ⟨h9, hm⟩ := gd hm
          refine va_iast hx hb hK hP hD hS 2 0 rfl rfl h9 d_M_improveRow_82 (fun H locs hP hD hS => ?_)
          have hP : va_P (dC, dI) classes [(mq, .inr (3, [.ref mq1, .ref mq2, .ref mq3, .ref mq4, .ref mq5, .int m_pieceCount, .int m_orderCount, .int m_pairs, .int m_worthSum, .int m_upToDate])), (mq1, .inl (cI, 100, .inl m_gains)), (mq2, .inl (cI, 11264, .inl (upd m_besta (y4a + y8a).toNatClampNeg (y3a + (m_besta ((y5a + y8a) - y6a).toNatClampNeg))))), (mq3, .inl (cI, 10, .inl m_chosen)), (mq4, .inl (cI, 10, .inl m_pieceDuals)), (mq5, .inl (cI, 10, .inl m_orderDuals))] H := hP
          have hD : va_D A [(mq, .inr (3, [.ref mq1, .ref mq2, .ref mq3, .ref mq4, .ref mq5, .int m_pieceCount, .int m_orderCount, .int m_pairs, .int m_worthSum, .int m_upToDate])), (mq1, .inl (cI, 100, .inl m_gains)), (mq2, .inl (cI, 11264, .inl (upd m_besta (y4a + y8a).toNatClampNeg (y3a + (m_besta ((y5a + y8a) - y6a).toNatClampNeg))))), (mq3, .inl (cI, 10, .inl m_chosen)), (mq4, .inl (cI, 10, .inl m_pieceDuals)), (mq5, .inl (cI, 10, .inl m_orderDuals))] := hD
          refine lv_iload hx hb d_M_improveRow_83 (lv_at hl 9 rfl) ?_
          refine lv_iconst (v := 1) hx hb d_M_improveRow_85 (by decide) ?_
          refine lv_iadd hx hb d_M_improveRow_86 ?_
          refine lv_iload hx hb d_M_improveRow_87 (lv_at hl 7 rfl) ?_
          refine lv_ior hx hb d_M_improveRow_89 ?_
          refine lv_istore (lv' := [(8, .int ((y8a + 1) ||| y6a)), (9, .int (y3a + (m_besta ((y5a + y8a) - y6a).toNatClampNeg))), (0, .ref mq), (1, .int y1a), (2, .int y2a), (3, .int y3a), (4, .int y4a), (5, .int y5a), (6, .int y6a), (7, .int y7a)]) hx hb d_M_improveRow_90 hl (by decide) rfl (fun ls hl => ?_)
          refine lv_goto (tgt := 32) hx hb d_M_improveRow_92 (by decide) ?_
          have hl : lv_has ls 10 [(0, .ref mq), (1, .int y1a), (2, .int y2a), (3, .int y3a), (4, .int y4a), (5, .int y5a), (6, .int y6a), (7, .int y7a), (8, .int ((y8a + 1) ||| y6a))] := lv_sub hl [2, 3, 4, 5, 6, 7, 8, 9, 0] rfl
          exact ih32 y1a y2a y3a y4a y5a y6a y7a ((y8a + 1) ||| y6a) (upd m_besta (y4a + y8a).toNatClampNeg (y3a + (m_besta ((y5a + y8a) - y6a).toNatClampNeg))) _ _ ls hl hP hD hS hm
  have hl : lv_has ls 10 [(0, .ref mq), (1, .int x1), (2, .int x2), (3, .int x3), (4, .int (x1 * 1024)), (5, .int ((x1 * 1024) - 1024)), (6, .int ((1 : Int32) <<< (x2 &&& 31))), (7, .int ((1 : Int32) <<< (m_orderCount &&& 31))), (8, .int ((1 : Int32) <<< (x2 &&& 31)))] := lv_sub hl [5, 6, 7, 8, 4, 3, 2, 1, 0] rfl
  refine key32 _ (fun y1a y2a y3a y4a y5a y6a y7a y8a m_besta H locs ls hl hP hD hS hm => ?_) N x1 x2 x3 (x1 * 1024) ((x1 * 1024) - 1024) ((1 : Int32) <<< (x2 &&& 31)) ((1 : Int32) <<< (m_orderCount &&& 31)) ((1 : Int32) <<< (x2 &&& 31)) m_best _ _ ls hl hP hD hS hm
  try dsimp only at hm
  cases hm
  refine W.widen (k := 0) (n := 0) (Nat.le_of_ble_eq_true rfl) (Nat.le_of_ble_eq_true rfl) ?_
  exact W.vret hx hb hr (fun t ht hW => ⟨⟨(), rfl, trivial, by rw [ht]; exact hP, va_K.moved hW.alike hK, hD⟩, hS.F ht⟩) hS.2.2 d_M_improveRow_95

def w_M_fillBest : List Cond := .code y_M_fillBest b_M_fillBest 4 none :: W0
theorem q_M_fillBest : y_M_fillBest.cls = R_M ∧ y_M_fillBest.cls ≠ "java/lang/invoke/MethodHandle" ∧ y_M_fillBest.cls ≠ "java/lang/invoke/VarHandle" ∧ (parseMethodDescriptor y_M_fillBest.desc).map (fun d => d.parameters.length) = some 0 := by decide +kernel
def L_M_fillBest_41 (N : Nat) (m_gains : Nat → Int32) (m_pieceCount : Int32) (m_orderCount : Int32) (K : Int32 → Int32 → (Nat → Int32) → Option (Nat → Int32)) : Nat → Int32 → Int32 → (Nat → Int32) → Option (Nat → Int32)
  | 0, _, _, _ => none
  | n + 1, y1b, y2b, m_bestb =>
    (if m_orderCount ≤ y2b then
    K y1b y2b m_bestb
   else
    ((m_S_pairIndex (m_pieceCount - y1b) y2b).bind fun r1 =>
      (if r1 < 0 ∨ 100 ≤ r1.toNatClampNeg then none else
      (if (m_gains r1.toNatClampNeg) ≤ 0 then
        L_M_fillBest_41 N m_gains m_pieceCount m_orderCount K n y1b (y2b + 1) m_bestb
       else
        ((m_M_improveRow N m_bestb m_orderCount y1b y2b (m_gains r1.toNatClampNeg)).bind fun u3 =>
          L_M_fillBest_41 N m_gains m_pieceCount m_orderCount K n y1b (y2b + 1) u3)))))
def L_M_fillBest_2 (N : Nat) (m_gains : Nat → Int32) (m_pieceCount : Int32) (m_orderCount : Int32) (K : Int32 → (Nat → Int32) → Option (Nat → Int32)) : Nat → Int32 → (Nat → Int32) → Option (Nat → Int32)
  | 0, _, _ => none
  | n + 1, y1a, m_besta =>
    (if m_pieceCount < y1a then
    K y1a m_besta
   else
    (if ((y1a - 1) * 1024) < 0 ∨ (y1a * 1024) < 0 ∨ ((1 : Int32) <<< (m_orderCount &&& 31)) < 0 ∨ 11264 < ((y1a - 1) * 1024).toNatClampNeg + ((1 : Int32) <<< (m_orderCount &&& 31)).toNatClampNeg ∨ 11264 < (y1a * 1024).toNatClampNeg + ((1 : Int32) <<< (m_orderCount &&& 31)).toNatClampNeg then none else
    L_M_fillBest_41 N m_gains m_pieceCount m_orderCount (fun y1b y2b m_bestb =>
      L_M_fillBest_2 N m_gains m_pieceCount m_orderCount K n (y1b + 1) m_bestb) N y1a 0 (va_cpy m_besta m_besta ((y1a - 1) * 1024).toNatClampNeg (y1a * 1024).toNatClampNeg ((1 : Int32) <<< (m_orderCount &&& 31)).toNatClampNeg)))
def m_M_fillBest (N : Nat) (m_gains : Nat → Int32) (m_best : Nat → Int32) (m_pieceCount : Int32) (m_orderCount : Int32) : Option (Nat → Int32) :=
  L_M_fillBest_2 N m_gains m_pieceCount m_orderCount (fun y1a m_besta =>
  some m_besta) N 1 m_best
set_option maxHeartbeats 4000000 in
set_option maxRecDepth 100000 in
theorem c_M_fillBest (l : Launch) (dC : Nat → ClassId) (dI : Nat → Nat → Nat) (cI : ClassId) (mq mq1 mq2 mq3 mq4 mq5 : Nat) (sz : Nat) (m_gains : Nat → Int32) (m_best : Nat → Int32) (m_chosen : Nat → Int32) (m_pieceDuals : Nat → Int32) (m_orderDuals : Nat → Int32) (m_pieceCount : Int32) (m_orderCount : Int32) (m_pairs : Int32) (m_worthSum : Int32) (m_upToDate : Int32)  (N : Nat) (res : (Nat → Int32)) (hm : m_M_fillBest N m_gains m_best m_pieceCount m_orderCount = some res) : Met l y_M_fillBest w_M_fillBest ({ frames := 1, cells := 0, slots := 0, locals := 48 } : Room) (va_Pc [.ref mq] (fun U => U.heap.size = sz ∧ va_P (dC, dI) classes [(mq, .inr (3, [.ref mq1, .ref mq2, .ref mq3, .ref mq4, .ref mq5, .int m_pieceCount, .int m_orderCount, .int m_pairs, .int m_worthSum, .int m_upToDate])), (mq1, .inl (cI, 100, .inl m_gains)), (mq2, .inl (cI, 11264, .inl m_best)), (mq3, .inl (cI, 10, .inl m_chosen)), (mq4, .inl (cI, 10, .inl m_pieceDuals)), (mq5, .inl (cI, 10, .inl m_orderDuals))] U.heap ∧ va_K (dC, dI) classes [(cI, .int)] U ∧ va_D (fun _ => True) [(mq, .inr (3, [.ref mq1, .ref mq2, .ref mq3, .ref mq4, .ref mq5, .int m_pieceCount, .int m_orderCount, .int m_pairs, .int m_worthSum, .int m_upToDate])), (mq1, .inl (cI, 100, .inl m_gains)), (mq2, .inl (cI, 11264, .inl m_best)), (mq3, .inl (cI, 10, .inl m_chosen)), (mq4, .inl (cI, 10, .inl m_pieceDuals)), (mq5, .inl (cI, 10, .inl m_orderDuals))] ∧ nw U)) (va_Qv (fun _ : Unit => True) (fun _ t => va_P (dC, dI) classes [(mq, .inr (3, [.ref mq1, .ref mq2, .ref mq3, .ref mq4, .ref mq5, .int m_pieceCount, .int m_orderCount, .int m_pairs, .int m_worthSum, .int m_upToDate])), (mq1, .inl (cI, 100, .inl m_gains)), (mq2, .inl (cI, 11264, .inl res)), (mq3, .inl (cI, 10, .inl m_chosen)), (mq4, .inl (cI, 10, .inl m_pieceDuals)), (mq5, .inl (cI, 10, .inl m_orderDuals))] t.heap ∧ va_K (dC, dI) classes [(cI, .int)] t ∧ va_D (va_A [(mq, .inr (3, [.ref mq1, .ref mq2, .ref mq3, .ref mq4, .ref mq5, .int m_pieceCount, .int m_orderCount, .int m_pairs, .int m_worthSum, .int m_upToDate])), (mq1, .inl (cI, 100, .inl m_gains)), (mq2, .inl (cI, 11264, .inl m_best)), (mq3, .inl (cI, 10, .inl m_chosen)), (mq4, .inl (cI, 10, .inl m_pieceDuals)), (mq5, .inl (cI, 10, .inl m_orderDuals))] sz) [(mq, .inr (3, [.ref mq1, .ref mq2, .ref mq3, .ref mq4, .ref mq5, .int m_pieceCount, .int m_orderCount, .int m_pairs, .int m_worthSum, .int m_upToDate])), (mq1, .inl (cI, 100, .inl m_gains)), (mq2, .inl (cI, 11264, .inl res)), (mq3, .inl (cI, 10, .inl m_chosen)), (mq4, .inl (cI, 10, .inl m_pieceDuals)), (mq5, .inl (cI, 10, .inl m_orderDuals))]) (va_A [(mq, .inr (3, [.ref mq1, .ref mq2, .ref mq3, .ref mq4, .ref mq5, .int m_pieceCount, .int m_orderCount, .int m_pairs, .int m_worthSum, .int m_upToDate])), (mq1, .inl (cI, 100, .inl m_gains)), (mq2, .inl (cI, 11264, .inl m_best)), (mq3, .inl (cI, 10, .inl m_chosen)), (mq4, .inl (cI, 10, .inl m_pieceDuals)), (mq5, .inl (cI, 10, .inl m_orderDuals))] sz)) 0 0 (va_A [(mq, .inr (3, [.ref mq1, .ref mq2, .ref mq3, .ref mq4, .ref mq5, .int m_pieceCount, .int m_orderCount, .int m_pairs, .int m_worthSum, .int m_upToDate])), (mq1, .inl (cI, 100, .inl m_gains)), (mq2, .inl (cI, 11264, .inl m_best)), (mq3, .inl (cI, 10, .inl m_chosen)), (mq4, .inl (cI, 10, .inl m_pieceDuals)), (mq5, .inl (cI, 10, .inl m_orderDuals))] sz) := by
  unfold m_M_fillBest at hm
  refine Met.ofW (cc := b_M_fillBest) (maxL := 4) (ret := none) (by decide) rfl ?_
  intro p e s m args below meth c s₁ B hml hv
  obtain ⟨rfl, hsz, hP, hK, hD0, hN⟩ := hv
  have hx := B.exec
  have hb := B.bytes
  have hr := B.returns
  have hts := atoms_spec (ws := w_M_fillBest) B.pre
  have hown : s.vm.findClass R_M = some m.cls := findClass_of_methodNamed B.named
  have hlocks := B.notSynchronized
  subst hsz
  have hD := hD0.self (sz := s.heap.size)
  generalize hAe : va_A [(mq, .inr (3, [.ref mq1, .ref mq2, .ref mq3, .ref mq4, .ref mq5, .int m_pieceCount, .int m_orderCount, .int m_pairs, .int m_worthSum, .int m_upToDate])), (mq1, .inl (cI, 100, .inl m_gains)), (mq2, .inl (cI, 11264, .inl m_best)), (mq3, .inl (cI, 10, .inl m_chosen)), (mq4, .inl (cI, 10, .inl m_pieceDuals)), (mq5, .inl (cI, 10, .inl m_orderDuals))] s.heap.size = A at hD ⊢
  have hA : ∀ q : Nat, s.heap.size ≤ q → A q := fun q h => by rw [← hAe]; exact Or.inr h
  have hS : va_S A s.heap s.heap [] := va_S.rf
  have hk0 := hts (.fieldLink R_M 42 "SurplusMatch$Matching" "pieceCount" "I") (List.mem_cons_of_mem _ (w0 115 rfl))
  have hk1 : ∀ w ∈ w_M, w ∈ w_M_fillBest := fun w h => List.mem_cons_of_mem _ (i_M w h)
  have hk2 := hts (.fieldLink R_M 15 "SurplusMatch$Matching" "best" "[I") (List.mem_cons_of_mem _ (w0 111 rfl))
  have hk3 := hts (.fieldLink R_M 45 "SurplusMatch$Matching" "orderCount" "I") (List.mem_cons_of_mem _ (w0 116 rfl))
  have hk4 := hts (.methodLink R_M 57 arraycopyName) (List.mem_cons_of_mem _ (w0 244 rfl))
  have hk5 := hts (.native arraycopyName) (List.mem_cons_of_mem _ (w0 246 rfl))
  have hk6 := hts (.static arraycopyName) (List.mem_cons_of_mem _ (w0 245 rfl))
  have hk7 := hts (.initialized "java/lang/System") (List.mem_cons_of_mem _ (w0 41 rfl))
  have hk8 := hts (.fieldLink R_M 9 "SurplusMatch$Matching" "gains" "[I") (List.mem_cons_of_mem _ (w0 110 rfl))
  have hk9 := hts (.initialized R_S) (List.mem_cons_of_mem _ (w0 28 rfl))
  have hk10 := hts (.static y_S_pairIndex) (List.mem_cons_of_mem _ (w0 228 rfl))
  have hl := lv_entry ([.ref mq]) (n := 4) (Nat.le_of_ble_eq_true rfl)
  rw [lg_entry_eq]
  generalize (lg_sl ([.ref mq]) ++ List.replicate (4 - (lg_sl ([.ref mq])).length) Slot.unset).toArray = ls at hl ⊢
  have hl : lv_has ls 4 [(0, .ref mq)] := hl
  refine lv_iconst (v := 1) hx hb d_M_fillBest_0 (by decide) ?_
  refine lv_istore_n (lv' := [(1, .int 1), (0, .ref mq)]) hx hb d_M_fillBest_1 rfl hl (by decide) rfl (fun ls hl => ?_)
  have key2 : ∀ (K : Int32 → (Nat → Int32) → Option (Nat → Int32)) (_ : ∀ (y1a : Int32) (m_besta : Nat → Int32) (H : Heap) (locs : List Loc) (ls : Array Slot), lv_has ls 4 [(0, .ref mq), (1, .int y1a)] → va_P (dC, dI) classes [(mq, .inr (3, [.ref mq1, .ref mq2, .ref mq3, .ref mq4, .ref mq5, .int m_pieceCount, .int m_orderCount, .int m_pairs, .int m_worthSum, .int m_upToDate])), (mq1, .inl (cI, 100, .inl m_gains)), (mq2, .inl (cI, 11264, .inl m_besta)), (mq3, .inl (cI, 10, .inl m_chosen)), (mq4, .inl (cI, 10, .inl m_pieceDuals)), (mq5, .inl (cI, 10, .inl m_orderDuals))] H → va_D A [(mq, .inr (3, [.ref mq1, .ref mq2, .ref mq3, .ref mq4, .ref mq5, .int m_pieceCount, .int m_orderCount, .int m_pairs, .int m_worthSum, .int m_upToDate])), (mq1, .inl (cI, 100, .inl m_gains)), (mq2, .inl (cI, 11264, .inl m_besta)), (mq3, .inl (cI, 10, .inl m_chosen)), (mq4, .inl (cI, 10, .inl m_pieceDuals)), (mq5, .inl (cI, 10, .inl m_orderDuals))] → va_S A s.heap H locs → K y1a m_besta = some res → W p l e (headSpec w_M_fillBest ({ frames := 1, cells := 0, slots := 0, locals := 48 } : Room)).room s m ([.ref mq] : List Value).toArray below meth c H locs 0 0 (MQ below (va_Qv (fun _ : Unit => True) (fun _ t => va_P (dC, dI) classes [(mq, .inr (3, [.ref mq1, .ref mq2, .ref mq3, .ref mq4, .ref mq5, .int m_pieceCount, .int m_orderCount, .int m_pairs, .int m_worthSum, .int m_upToDate])), (mq1, .inl (cI, 100, .inl m_gains)), (mq2, .inl (cI, 11264, .inl res)), (mq3, .inl (cI, 10, .inl m_chosen)), (mq4, .inl (cI, 10, .inl m_pieceDuals)), (mq5, .inl (cI, 10, .inl m_orderDuals))] t.heap ∧ va_K (dC, dI) classes [(cI, .int)] t ∧ va_D A [(mq, .inr (3, [.ref mq1, .ref mq2, .ref mq3, .ref mq4, .ref mq5, .int m_pieceCount, .int m_orderCount, .int m_pairs, .int m_worthSum, .int m_upToDate])), (mq1, .inl (cI, 100, .inl m_gains)), (mq2, .inl (cI, 11264, .inl res)), (mq3, .inl (cI, 10, .inl m_chosen)), (mq4, .inl (cI, 10, .inl m_pieceDuals)), (mq5, .inl (cI, 10, .inl m_orderDuals))]) A) ([.ref mq] : List Value).toArray s 0 0 A) (F0 m 88 ls [])) (n : Nat) (y1a : Int32) (m_besta : Nat → Int32) (H : Heap) (locs : List Loc) (ls : Array Slot), lv_has ls 4 [(0, .ref mq), (1, .int y1a)] → va_P (dC, dI) classes [(mq, .inr (3, [.ref mq1, .ref mq2, .ref mq3, .ref mq4, .ref mq5, .int m_pieceCount, .int m_orderCount, .int m_pairs, .int m_worthSum, .int m_upToDate])), (mq1, .inl (cI, 100, .inl m_gains)), (mq2, .inl (cI, 11264, .inl m_besta)), (mq3, .inl (cI, 10, .inl m_chosen)), (mq4, .inl (cI, 10, .inl m_pieceDuals)), (mq5, .inl (cI, 10, .inl m_orderDuals))] H → va_D A [(mq, .inr (3, [.ref mq1, .ref mq2, .ref mq3, .ref mq4, .ref mq5, .int m_pieceCount, .int m_orderCount, .int m_pairs, .int m_worthSum, .int m_upToDate])), (mq1, .inl (cI, 100, .inl m_gains)), (mq2, .inl (cI, 11264, .inl m_besta)), (mq3, .inl (cI, 10, .inl m_chosen)), (mq4, .inl (cI, 10, .inl m_pieceDuals)), (mq5, .inl (cI, 10, .inl m_orderDuals))] → va_S A s.heap H locs → L_M_fillBest_2 N m_gains m_pieceCount m_orderCount K n y1a m_besta = some res → W p l e (headSpec w_M_fillBest ({ frames := 1, cells := 0, slots := 0, locals := 48 } : Room)).room s m ([.ref mq] : List Value).toArray below meth c H locs 0 0 (MQ below (va_Qv (fun _ : Unit => True) (fun _ t => va_P (dC, dI) classes [(mq, .inr (3, [.ref mq1, .ref mq2, .ref mq3, .ref mq4, .ref mq5, .int m_pieceCount, .int m_orderCount, .int m_pairs, .int m_worthSum, .int m_upToDate])), (mq1, .inl (cI, 100, .inl m_gains)), (mq2, .inl (cI, 11264, .inl res)), (mq3, .inl (cI, 10, .inl m_chosen)), (mq4, .inl (cI, 10, .inl m_pieceDuals)), (mq5, .inl (cI, 10, .inl m_orderDuals))] t.heap ∧ va_K (dC, dI) classes [(cI, .int)] t ∧ va_D A [(mq, .inr (3, [.ref mq1, .ref mq2, .ref mq3, .ref mq4, .ref mq5, .int m_pieceCount, .int m_orderCount, .int m_pairs, .int m_worthSum, .int m_upToDate])), (mq1, .inl (cI, 100, .inl m_gains)), (mq2, .inl (cI, 11264, .inl res)), (mq3, .inl (cI, 10, .inl m_chosen)), (mq4, .inl (cI, 10, .inl m_pieceDuals)), (mq5, .inl (cI, 10, .inl m_orderDuals))]) A) ([.ref mq] : List Value).toArray s 0 0 A) (F0 m 2 ls []) := by
    intro K hK2 n
    induction n with
    | zero => intro y1a m_besta H locs ls hl hP hD hS hm; exact absurd hm (by simp [L_M_fillBest_2])
    | succ n ih2 =>
      intro y1a m_besta H locs ls hl hP hD hS hm
      rw [L_M_fillBest_2] at hm
      refine lv_iload_n hx hb d_M_fillBest_2 rfl (lv_at hl 1 rfl) ?_
      refine lv_aload_n hx hb d_M_fillBest_3 rfl (lv_at hl 0 rfl) ?_
      refine va_get (D := (dC, dI)) (ci := 3) (v := .int m_pieceCount) (C := R_M) (T := F_M) (N := 10) hx hb hts hk1 hown hK hP 0 rfl rfl 5 (by decide) hk0 (fun _ h9 => h9) rfl d_M_fillBest_4 ?_
      refine lv_icmp_gt (tgt := 88) hx hb d_M_fillBest_7 (by decide) (fun c9 => ?_) (fun c9 => ?_)
      · replace hm := if_t c9 hm
        have hl : lv_has ls 4 [(0, .ref mq), (1, .int y1a)] := lv_sub hl [0, 1] rfl
        exact hK2 y1a m_besta _ _ ls hl hP hD hS hm
      · replace hm := if_f c9 hm
        refine lv_aload_n hx hb d_M_fillBest_10 rfl (lv_at hl 0 rfl) ?_
        refine va_get (D := (dC, dI)) (ci := 3) (v := .ref mq2) (C := R_M) (T := F_M) (N := 10) hx hb hts hk1 hown hK hP 0 rfl rfl 1 (by decide) hk2 (fun _ h9 => h9) rfl d_M_fillBest_11 ?_
        refine lv_iload_n hx hb d_M_fillBest_14 rfl (lv_at hl 1 rfl) ?_
        refine lv_iconst (v := 1) hx hb d_M_fillBest_15 (by decide) ?_
        refine lv_isub hx hb d_M_fillBest_16 ?_
        refine lv_sipush (v := 1024) hx hb d_M_fillBest_17 (by decide) ?_
        refine lv_imul hx hb d_M_fillBest_20 ?_
        refine lv_aload_n hx hb d_M_fillBest_21 rfl (lv_at hl 0 rfl) ?_
        refine va_get (D := (dC, dI)) (ci := 3) (v := .ref mq2) (C := R_M) (T := F_M) (N := 10) hx hb hts hk1 hown hK hP 0 rfl rfl 1 (by decide) hk2 (fun _ h9 => h9) rfl d_M_fillBest_22 ?_
        refine lv_iload_n hx hb d_M_fillBest_25 rfl (lv_at hl 1 rfl) ?_
        refine lv_sipush (v := 1024) hx hb d_M_fillBest_26 (by decide) ?_
        refine lv_imul hx hb d_M_fillBest_29 ?_
        refine lv_iconst (v := 1) hx hb d_M_fillBest_30 (by decide) ?_
        refine lv_aload_n hx hb d_M_fillBest_31 rfl (lv_at hl 0 rfl) ?_
        refine va_get (D := (dC, dI)) (ci := 3) (v := .int m_orderCount) (C := R_M) (T := F_M) (N := 10) hx hb hts hk1 hown hK hP 0 rfl rfl 6 (by decide) hk3 (fun _ h9 => h9) rfl d_M_fillBest_32 ?_
        refine lv_ishl hx hb d_M_fillBest_35 ?_
        obtain ⟨h9, hm⟩ := gd hm
        obtain ⟨g1, g2, g3, g4, g5⟩ := cp5 h9
        refine va_copyi hx hb (by rw [hml]; exact hl.1.symm) hown hk4 hk5 hk6 hk7 hK hP hD hS 2 2 0 0 rfl rfl rfl rfl rfl g1 g2 g3 g4 g5 (fun _ _ => rfl) (Nat.le_of_ble_eq_true rfl) (Nat.le_of_ble_eq_true rfl) d_M_fillBest_36 (fun H locs hP hD hS => ?_)
        have hP : va_P (dC, dI) classes [(mq, .inr (3, [.ref mq1, .ref mq2, .ref mq3, .ref mq4, .ref mq5, .int m_pieceCount, .int m_orderCount, .int m_pairs, .int m_worthSum, .int m_upToDate])), (mq1, .inl (cI, 100, .inl m_gains)), (mq2, .inl (cI, 11264, .inl (va_cpy m_besta m_besta ((y1a - 1) * 1024).toNatClampNeg (y1a * 1024).toNatClampNeg ((1 : Int32) <<< (m_orderCount &&& 31)).toNatClampNeg))), (mq3, .inl (cI, 10, .inl m_chosen)), (mq4, .inl (cI, 10, .inl m_pieceDuals)), (mq5, .inl (cI, 10, .inl m_orderDuals))] H := hP
        have hD : va_D A [(mq, .inr (3, [.ref mq1, .ref mq2, .ref mq3, .ref mq4, .ref mq5, .int m_pieceCount, .int m_orderCount, .int m_pairs, .int m_worthSum, .int m_upToDate])), (mq1, .inl (cI, 100, .inl m_gains)), (mq2, .inl (cI, 11264, .inl (va_cpy m_besta m_besta ((y1a - 1) * 1024).toNatClampNeg (y1a * 1024).toNatClampNeg ((1 : Int32) <<< (m_orderCount &&& 31)).toNatClampNeg))), (mq3, .inl (cI, 10, .inl m_chosen)), (mq4, .inl (cI, 10, .inl m_pieceDuals)), (mq5, .inl (cI, 10, .inl m_orderDuals))] := hD
        refine lv_iconst (v := 0) hx hb d_M_fillBest_39 (by decide) ?_
        refine lv_istore_n (lv' := [(2, .int 0), (0, .ref mq), (1, .int y1a)]) hx hb d_M_fillBest_40 rfl hl (by decide) rfl (fun ls hl => ?_)
        have key41 : ∀ (K : Int32 → Int32 → (Nat → Int32) → Option (Nat → Int32)) (_ : ∀ (y1b : Int32) (y2b : Int32) (m_bestb : Nat → Int32) (H : Heap) (locs : List Loc) (ls : Array Slot), lv_has ls 4 [(0, .ref mq), (1, .int y1b), (2, .int y2b)] → va_P (dC, dI) classes [(mq, .inr (3, [.ref mq1, .ref mq2, .ref mq3, .ref mq4, .ref mq5, .int m_pieceCount, .int m_orderCount, .int m_pairs, .int m_worthSum, .int m_upToDate])), (mq1, .inl (cI, 100, .inl m_gains)), (mq2, .inl (cI, 11264, .inl m_bestb)), (mq3, .inl (cI, 10, .inl m_chosen)), (mq4, .inl (cI, 10, .inl m_pieceDuals)), (mq5, .inl (cI, 10, .inl m_orderDuals))] H → va_D A [(mq, .inr (3, [.ref mq1, .ref mq2, .ref mq3, .ref mq4, .ref mq5, .int m_pieceCount, .int m_orderCount, .int m_pairs, .int m_worthSum, .int m_upToDate])), (mq1, .inl (cI, 100, .inl m_gains)), (mq2, .inl (cI, 11264, .inl m_bestb)), (mq3, .inl (cI, 10, .inl m_chosen)), (mq4, .inl (cI, 10, .inl m_pieceDuals)), (mq5, .inl (cI, 10, .inl m_orderDuals))] → va_S A s.heap H locs → K y1b y2b m_bestb = some res → W p l e (headSpec w_M_fillBest ({ frames := 1, cells := 0, slots := 0, locals := 48 } : Room)).room s m ([.ref mq] : List Value).toArray below meth c H locs 0 0 (MQ below (va_Qv (fun _ : Unit => True) (fun _ t => va_P (dC, dI) classes [(mq, .inr (3, [.ref mq1, .ref mq2, .ref mq3, .ref mq4, .ref mq5, .int m_pieceCount, .int m_orderCount, .int m_pairs, .int m_worthSum, .int m_upToDate])), (mq1, .inl (cI, 100, .inl m_gains)), (mq2, .inl (cI, 11264, .inl res)), (mq3, .inl (cI, 10, .inl m_chosen)), (mq4, .inl (cI, 10, .inl m_pieceDuals)), (mq5, .inl (cI, 10, .inl m_orderDuals))] t.heap ∧ va_K (dC, dI) classes [(cI, .int)] t ∧ va_D A [(mq, .inr (3, [.ref mq1, .ref mq2, .ref mq3, .ref mq4, .ref mq5, .int m_pieceCount, .int m_orderCount, .int m_pairs, .int m_worthSum, .int m_upToDate])), (mq1, .inl (cI, 100, .inl m_gains)), (mq2, .inl (cI, 11264, .inl res)), (mq3, .inl (cI, 10, .inl m_chosen)), (mq4, .inl (cI, 10, .inl m_pieceDuals)), (mq5, .inl (cI, 10, .inl m_orderDuals))]) A) ([.ref mq] : List Value).toArray s 0 0 A) (F0 m 82 ls [])) (n : Nat) (y1b : Int32) (y2b : Int32) (m_bestb : Nat → Int32) (H : Heap) (locs : List Loc) (ls : Array Slot), lv_has ls 4 [(0, .ref mq), (1, .int y1b), (2, .int y2b)] → va_P (dC, dI) classes [(mq, .inr (3, [.ref mq1, .ref mq2, .ref mq3, .ref mq4, .ref mq5, .int m_pieceCount, .int m_orderCount, .int m_pairs, .int m_worthSum, .int m_upToDate])), (mq1, .inl (cI, 100, .inl m_gains)), (mq2, .inl (cI, 11264, .inl m_bestb)), (mq3, .inl (cI, 10, .inl m_chosen)), (mq4, .inl (cI, 10, .inl m_pieceDuals)), (mq5, .inl (cI, 10, .inl m_orderDuals))] H → va_D A [(mq, .inr (3, [.ref mq1, .ref mq2, .ref mq3, .ref mq4, .ref mq5, .int m_pieceCount, .int m_orderCount, .int m_pairs, .int m_worthSum, .int m_upToDate])), (mq1, .inl (cI, 100, .inl m_gains)), (mq2, .inl (cI, 11264, .inl m_bestb)), (mq3, .inl (cI, 10, .inl m_chosen)), (mq4, .inl (cI, 10, .inl m_pieceDuals)), (mq5, .inl (cI, 10, .inl m_orderDuals))] → va_S A s.heap H locs → L_M_fillBest_41 N m_gains m_pieceCount m_orderCount K n y1b y2b m_bestb = some res → W p l e (headSpec w_M_fillBest ({ frames := 1, cells := 0, slots := 0, locals := 48 } : Room)).room s m ([.ref mq] : List Value).toArray below meth c H locs 0 0 (MQ below (va_Qv (fun _ : Unit => True) (fun _ t => va_P (dC, dI) classes [(mq, .inr (3, [.ref mq1, .ref mq2, .ref mq3, .ref mq4, .ref mq5, .int m_pieceCount, .int m_orderCount, .int m_pairs, .int m_worthSum, .int m_upToDate])), (mq1, .inl (cI, 100, .inl m_gains)), (mq2, .inl (cI, 11264, .inl res)), (mq3, .inl (cI, 10, .inl m_chosen)), (mq4, .inl (cI, 10, .inl m_pieceDuals)), (mq5, .inl (cI, 10, .inl m_orderDuals))] t.heap ∧ va_K (dC, dI) classes [(cI, .int)] t ∧ va_D A [(mq, .inr (3, [.ref mq1, .ref mq2, .ref mq3, .ref mq4, .ref mq5, .int m_pieceCount, .int m_orderCount, .int m_pairs, .int m_worthSum, .int m_upToDate])), (mq1, .inl (cI, 100, .inl m_gains)), (mq2, .inl (cI, 11264, .inl res)), (mq3, .inl (cI, 10, .inl m_chosen)), (mq4, .inl (cI, 10, .inl m_pieceDuals)), (mq5, .inl (cI, 10, .inl m_orderDuals))]) A) ([.ref mq] : List Value).toArray s 0 0 A) (F0 m 41 ls []) := by
          intro K hK41 n
          induction n with
          | zero => intro y1b y2b m_bestb H locs ls hl hP hD hS hm; exact absurd hm (by simp [L_M_fillBest_41])
          | succ n ih41 =>
            intro y1b y2b m_bestb H locs ls hl hP hD hS hm
            rw [L_M_fillBest_41] at hm
            refine lv_iload_n hx hb d_M_fillBest_41 rfl (lv_at hl 2 rfl) ?_
            refine lv_aload_n hx hb d_M_fillBest_42 rfl (lv_at hl 0 rfl) ?_
            refine va_get (D := (dC, dI)) (ci := 3) (v := .int m_orderCount) (C := R_M) (T := F_M) (N := 10) hx hb hts hk1 hown hK hP 0 rfl rfl 6 (by decide) hk3 (fun _ h9 => h9) rfl d_M_fillBest_43 ?_
            refine lv_icmp_ge (tgt := 82) hx hb d_M_fillBest_46 (by decide) (fun c9 => ?_) (fun c9 => ?_)
            · replace hm := if_t c9 hm
              have hl : lv_has ls 4 [(0, .ref mq), (1, .int y1b), (2, .int y2b)] := lv_sub hl [0, 1, 2] rfl
              exact hK41 y1b y2b m_bestb _ _ ls hl hP hD hS hm
            · replace hm := if_f c9 hm
              refine lv_aload_n hx hb d_M_fillBest_49 rfl (lv_at hl 0 rfl) ?_
              refine va_get (D := (dC, dI)) (ci := 3) (v := .ref mq1) (C := R_M) (T := F_M) (N := 10) hx hb hts hk1 hown hK hP 0 rfl rfl 0 (by decide) hk8 (fun _ h9 => h9) rfl d_M_fillBest_50 ?_
              refine lv_aload_n hx hb d_M_fillBest_53 rfl (lv_at hl 0 rfl) ?_
              refine va_get (D := (dC, dI)) (ci := 3) (v := .int m_pieceCount) (C := R_M) (T := F_M) (N := 10) hx hb hts hk1 hown hK hP 0 rfl rfl 5 (by decide) hk0 (fun _ h9 => h9) rfl d_M_fillBest_54 ?_
              refine lv_iload_n hx hb d_M_fillBest_57 rfl (lv_at hl 1 rfl) ?_
              refine lv_isub hx hb d_M_fillBest_58 ?_
              refine lv_iload_n hx hb d_M_fillBest_59 rfl (lv_at hl 2 rfl) ?_
              obtain ⟨r1, hc, hm⟩ := bd hm
              try dsimp only at hm
              refine vp_callSi (va_Run.run (va_runSN (As := [.int (m_pieceCount - y1b), .int y2b]) (rest := [.ref mq1]) ⟨hx, hb, hml, hown, hts⟩ (c_S_pairIndex l dC dI cI (m_pieceCount - y1b) y2b N r1 hc) ⟨va_cnB 2 hts (gN (w0 229 rfl)) rfl rfl rfl hN hk9 q_S_pairIndex.2 ⟨Nat.le_of_ble_eq_true rfl, Nat.le_of_ble_eq_true rfl⟩, hk10, trivial⟩ ro_pre0 rfl rfl hl.1 rfl (lv_room (Nat.le_of_ble_eq_true rfl)) d_M_fillBest_60 ⟨Nat.le_of_ble_eq_true rfl, Nat.le_of_ble_eq_true rfl⟩)) (fun r9 hr9 => ?_)
              subst hr9
              obtain ⟨h9, hm⟩ := gd hm
              refine va_iald hx hb hK hP 1 0 rfl rfl h9 d_M_fillBest_63 ?_
              refine lv_istore_n (lv' := [(3, .int (m_gains r1.toNatClampNeg)), (0, .ref mq), (1, .int y1b), (2, .int y2b)]) hx hb d_M_fillBest_64 rfl hl (by decide) rfl (fun ls hl => ?_)
              refine lv_iload_n hx hb d_M_fillBest_65 rfl (lv_at hl 0 rfl) ?_
              refine lv_if_le (tgt := 76) hx hb d_M_fillBest_66 (by decide) (fun c9 => ?_) (fun c9 => ?_)
              · replace hm := if_t c9 hm
                refine lv_iinc (v := (y2b + 1)) (lv' := [(2, .int (y2b + 1)), (3, .int (m_gains r1.toNatClampNeg)), (0, .ref mq), (1, .int y1b)]) hx hb d_M_fillBest_76 hl (k := 3) rfl rfl (by decide) rfl (fun ls hl => ?_)
                refine lv_goto (tgt := 41) hx hb d_M_fillBest_79 (by decide) ?_
                have hl : lv_has ls 4 [(0, .ref mq), (1, .int y1b), (2, .int (y2b + 1))] := lv_sub hl [2, 3, 0] rfl
                exact ih41 y1b (y2b + 1) m_bestb _ _ ls hl hP hD hS hm
              · replace hm := if_f c9 hm
                refine lv_aload_n hx hb d_M_fillBest_69 rfl (lv_at hl 1 rfl) ?_
                refine lv_iload_n hx hb d_M_fillBest_70 rfl (lv_at hl 2 rfl) ?_
                refine lv_iload_n hx hb d_M_fillBest_71 rfl (lv_at hl 3 rfl) ?_
                refine lv_iload_n hx hb d_M_fillBest_72 rfl (lv_at hl 0 rfl) ?_
                obtain ⟨u3, hc, hm⟩ := bd hm
                try dsimp only at hm
                have hPc := hP.sub (ws' := [(mq, .inr (3, [.ref mq1, .ref mq2, .ref mq3, .ref mq4, .ref mq5, .int m_pieceCount, .int m_orderCount, .int m_pairs, .int m_worthSum, .int m_upToDate])), (mq1, .inl (cI, 100, .inl m_gains)), (mq2, .inl (cI, 11264, .inl m_bestb)), (mq3, .inl (cI, 10, .inl m_chosen)), (mq4, .inl (cI, 10, .inl m_pieceDuals)), (mq5, .inl (cI, 10, .inl m_orderDuals))]) [0, 1, 2, 3, 4, 5] rfl
                have hDc := hD.sub (ws' := [(mq, .inr (3, [.ref mq1, .ref mq2, .ref mq3, .ref mq4, .ref mq5, .int m_pieceCount, .int m_orderCount, .int m_pairs, .int m_worthSum, .int m_upToDate])), (mq1, .inl (cI, 100, .inl m_gains)), (mq2, .inl (cI, 11264, .inl m_bestb)), (mq3, .inl (cI, 10, .inl m_chosen)), (mq4, .inl (cI, 10, .inl m_pieceDuals)), (mq5, .inl (cI, 10, .inl m_orderDuals))]) [0, 1, 2, 3, 4, 5] (by decide) rfl
                have hFc := va_free (wc := [(mq, .inr (3, [.ref mq1, .ref mq2, .ref mq3, .ref mq4, .ref mq5, .int m_pieceCount, .int m_orderCount, .int m_pairs, .int m_worthSum, .int m_upToDate])), (mq1, .inl (cI, 100, .inl m_gains)), (mq2, .inl (cI, 11264, .inl m_bestb)), (mq3, .inl (cI, 10, .inl m_chosen)), (mq4, .inl (cI, 10, .inl m_pieceDuals)), (mq5, .inl (cI, 10, .inl m_orderDuals))]) hD hS hA [0, 1, 2, 3, 4, 5] rfl
                refine va_callv (va_runV (As := [.int y1b, .int y2b, .int (m_gains r1.toNatClampNeg)]) (rest := []) ⟨hx, hb, hml, hown, hts⟩ (c_M_improveRow l dC dI cI mq mq1 mq2 mq3 mq4 mq5 H.size m_gains m_bestb m_chosen m_pieceDuals m_orderDuals m_pieceCount m_orderCount m_pairs m_worthSum m_upToDate y1b y2b (m_gains r1.toNatClampNeg) N u3 hc) (cwV 3 hts (gV (w0 247 rfl) (w0 248 rfl) (w0 5 rfl) (w0 32 rfl) (w0 249 rfl)) rfl rfl rfl q_M_improveRow ⟨Nat.le_of_ble_eq_true rfl, Nat.le_of_ble_eq_true rfl⟩) (wr_preV hK hPc hDc hN 3 0 (R_M, F_M, 10) rfl rfl) rfl rfl hl.1 rfl (lv_room (Nat.le_of_ble_eq_true rfl)) d_M_fillBest_73 ⟨Nat.le_of_ble_eq_true rfl, Nat.le_of_ble_eq_true rfl⟩) hS (fun q _ h => hFc q h) hFc (fun u t H1 locs ht hvm hw hB hz1 hk1 hS => ?_)
                obtain ⟨hP1, hK1, hD1⟩ := hB
                rw [ht] at hP1
                obtain ⟨hP, hD⟩ := va_join (wr := []) (w1 := [(mq, .inr (3, [.ref mq1, .ref mq2, .ref mq3, .ref mq4, .ref mq5, .int m_pieceCount, .int m_orderCount, .int m_pairs, .int m_worthSum, .int m_upToDate])), (mq1, .inl (cI, 100, .inl m_gains)), (mq2, .inl (cI, 11264, .inl u3)), (mq3, .inl (cI, 10, .inl m_chosen)), (mq4, .inl (cI, 10, .inl m_pieceDuals)), (mq5, .inl (cI, 10, .inl m_orderDuals))]) hP hD [0, 1, 2, 3, 4, 5] [] rfl rfl (by decide) (by decide) hk1 hFc hP1 hD1
                generalize H1 = H at hP hS ⊢
                have hP : va_P (dC, dI) classes [(mq, .inr (3, [.ref mq1, .ref mq2, .ref mq3, .ref mq4, .ref mq5, .int m_pieceCount, .int m_orderCount, .int m_pairs, .int m_worthSum, .int m_upToDate])), (mq1, .inl (cI, 100, .inl m_gains)), (mq2, .inl (cI, 11264, .inl u3)), (mq3, .inl (cI, 10, .inl m_chosen)), (mq4, .inl (cI, 10, .inl m_pieceDuals)), (mq5, .inl (cI, 10, .inl m_orderDuals))] H := hP
                have hD : va_D A [(mq, .inr (3, [.ref mq1, .ref mq2, .ref mq3, .ref mq4, .ref mq5, .int m_pieceCount, .int m_orderCount, .int m_pairs, .int m_worthSum, .int m_upToDate])), (mq1, .inl (cI, 100, .inl m_gains)), (mq2, .inl (cI, 11264, .inl u3)), (mq3, .inl (cI, 10, .inl m_chosen)), (mq4, .inl (cI, 10, .inl m_pieceDuals)), (mq5, .inl (cI, 10, .inl m_orderDuals))] := hD
                clear hP1 hD1 hPc hDc hFc hk1 hz1
                refine lv_iinc (v := (y2b + 1)) (lv' := [(2, .int (y2b + 1)), (3, .int (m_gains r1.toNatClampNeg)), (0, .ref mq), (1, .int y1b)]) hx hb d_M_fillBest_76 hl (k := 3) rfl rfl (by decide) rfl (fun ls hl => ?_)
                refine lv_goto (tgt := 41) hx hb d_M_fillBest_79 (by decide) ?_
                have hl : lv_has ls 4 [(0, .ref mq), (1, .int y1b), (2, .int (y2b + 1))] := lv_sub hl [2, 3, 0] rfl
                exact ih41 y1b (y2b + 1) u3 _ _ ls hl hP hD hS hm
        have hl : lv_has ls 4 [(0, .ref mq), (1, .int y1a), (2, .int 0)] := lv_sub hl [1, 2, 0] rfl
        refine key41 _ (fun y1b y2b m_bestb H locs ls hl hP hD hS hm => ?_) N y1a 0 (va_cpy m_besta m_besta ((y1a - 1) * 1024).toNatClampNeg (y1a * 1024).toNatClampNeg ((1 : Int32) <<< (m_orderCount &&& 31)).toNatClampNeg) _ _ ls hl hP hD hS hm
        try dsimp only at hm
        refine lv_iinc (v := (y1b + 1)) (lv' := [(1, .int (y1b + 1)), (0, .ref mq), (2, .int y2b)]) hx hb d_M_fillBest_82 hl (k := 1) rfl rfl (by decide) rfl (fun ls hl => ?_)
        refine lv_goto (tgt := 2) hx hb d_M_fillBest_85 (by decide) ?_
        have hl : lv_has ls 4 [(0, .ref mq), (1, .int (y1b + 1))] := lv_sub hl [1, 0] rfl
        exact ih2 (y1b + 1) m_bestb _ _ ls hl hP hD hS hm
  have hl : lv_has ls 4 [(0, .ref mq), (1, .int 1)] := lv_sub hl [1, 0] rfl
  refine key2 _ (fun y1a m_besta H locs ls hl hP hD hS hm => ?_) N 1 m_best _ _ ls hl hP hD hS hm
  try dsimp only at hm
  cases hm
  refine W.widen (k := 0) (n := 0) (Nat.le_of_ble_eq_true rfl) (Nat.le_of_ble_eq_true rfl) ?_
  exact W.vret hx hb hr (fun t ht hW => ⟨⟨(), rfl, trivial, by rw [ht]; exact hP, va_K.moved hW.alike hK, hD⟩, hS.F ht⟩) hS.2.2 d_M_fillBest_88

def w_M_lowestOfBest : List Cond := .code y_M_lowestOfBest b_M_lowestOfBest 8 (some .int) :: W0
theorem q_M_lowestOfBest : y_M_lowestOfBest.cls = R_M ∧ y_M_lowestOfBest.cls ≠ "java/lang/invoke/MethodHandle" ∧ y_M_lowestOfBest.cls ≠ "java/lang/invoke/VarHandle" ∧ (parseMethodDescriptor y_M_lowestOfBest.desc).map (fun d => d.parameters.length) = some 2 := by decide +kernel
def L_M_lowestOfBest_21 (N : Nat) (m_gains : Nat → Int32) (m_best : Nat → Int32) (m_orderCount : Int32) (K : Int32 → Int32 → Int32 → Int32 → Int32 → Option Int32) : Nat → Int32 → Int32 → Int32 → Int32 → Int32 → Option Int32
  | 0, _, _, _, _, _ => none
  | n + 1, y1a, y2a, y3a, y4a, y5a =>
    (if m_orderCount ≤ y5a then
    K y1a y2a y3a y4a y5a
   else
    ((m_S_pairIndex y1a y5a).bind fun r1 =>
      (if r1 < 0 ∨ 100 ≤ r1.toNatClampNeg then none else
      (if (m_gains r1.toNatClampNeg) ≤ 0 then
        L_M_lowestOfBest_21 N m_gains m_best m_orderCount K n y1a y2a y3a y4a (y5a + 1)
       else
        (if (y2a &&& ((1 : Int32) <<< (y5a &&& 31))) = 0 then
          L_M_lowestOfBest_21 N m_gains m_best m_orderCount K n y1a y2a y3a y4a (y5a + 1)
         else
          (if ((y4a + y2a) - ((1 : Int32) <<< (y5a &&& 31))) < 0 ∨ 11264 ≤ ((y4a + y2a) - ((1 : Int32) <<< (y5a &&& 31))).toNatClampNeg then none else
          (if (y3a + y2a) < 0 ∨ 11264 ≤ (y3a + y2a).toNatClampNeg then none else
          (if ((m_gains r1.toNatClampNeg) + (m_best ((y4a + y2a) - ((1 : Int32) <<< (y5a &&& 31))).toNatClampNeg)) = (m_best (y3a + y2a).toNatClampNeg) then
            some y5a
           else
            L_M_lowestOfBest_21 N m_gains m_best m_orderCount K n y1a y2a y3a y4a (y5a + 1)))))))))
def m_M_lowestOfBest (N : Nat) (m_gains : Nat → Int32) (m_best : Nat → Int32) (m_pieceCount : Int32) (m_orderCount : Int32) (x1 : Int32) (x2 : Int32) : Option Int32 :=
  L_M_lowestOfBest_21 N m_gains m_best m_orderCount (fun y1a y2a y3a y4a y5a =>
  some (-1)) N x1 x2 ((m_pieceCount - x1) * 1024) (((m_pieceCount - x1) * 1024) - 1024) 0
set_option maxHeartbeats 4000000 in
set_option maxRecDepth 100000 in
theorem c_M_lowestOfBest (l : Launch) (dC : Nat → ClassId) (dI : Nat → Nat → Nat) (cI : ClassId) (mq mq1 mq2 mq3 mq4 mq5 : Nat) (m_gains : Nat → Int32) (m_best : Nat → Int32) (m_chosen : Nat → Int32) (m_pieceDuals : Nat → Int32) (m_orderDuals : Nat → Int32) (m_pieceCount : Int32) (m_orderCount : Int32) (m_pairs : Int32) (m_worthSum : Int32) (m_upToDate : Int32) (x1 : Int32) (x2 : Int32) (N : Nat) (res : Int32) (hm : m_M_lowestOfBest N m_gains m_best m_pieceCount m_orderCount x1 x2 = some res) : Met l y_M_lowestOfBest w_M_lowestOfBest ({ frames := 1, cells := 0, slots := 0, locals := 21 } : Room) (va_Pc [.ref mq, .int x1, .int x2] (fun U => va_P (dC, dI) classes [(mq, .inr (3, [.ref mq1, .ref mq2, .ref mq3, .ref mq4, .ref mq5, .int m_pieceCount, .int m_orderCount, .int m_pairs, .int m_worthSum, .int m_upToDate])), (mq1, .inl (cI, 100, .inl m_gains)), (mq2, .inl (cI, 11264, .inl m_best)), (mq3, .inl (cI, 10, .inl m_chosen)), (mq4, .inl (cI, 10, .inl m_pieceDuals)), (mq5, .inl (cI, 10, .inl m_orderDuals))] U.heap ∧ va_K (dC, dI) classes [(cI, .int)] U ∧ nw U)) (vp_Si (fun x => res = x)) 0 0 (fun _ => False) := by
  unfold m_M_lowestOfBest at hm
  refine Met.ofW (cc := b_M_lowestOfBest) (maxL := 8) (ret := (some .int)) (by decide) rfl ?_
  intro p e s m args below meth c s₁ B hml hv
  obtain ⟨rfl, hP, hK, hN⟩ := hv
  have hx := B.exec
  have hb := B.bytes
  have hr := B.returns
  have hts := atoms_spec (ws := w_M_lowestOfBest) B.pre
  have hown : s.vm.findClass R_M = some m.cls := findClass_of_methodNamed B.named
  have hlocks := B.notSynchronized
  have hk0 := hts (.fieldLink R_M 42 "SurplusMatch$Matching" "pieceCount" "I") (List.mem_cons_of_mem _ (w0 115 rfl))
  have hk1 : ∀ w ∈ w_M, w ∈ w_M_lowestOfBest := fun w h => List.mem_cons_of_mem _ (i_M w h)
  have hk2 := hts (.fieldLink R_M 45 "SurplusMatch$Matching" "orderCount" "I") (List.mem_cons_of_mem _ (w0 116 rfl))
  have hk3 := hts (.fieldLink R_M 9 "SurplusMatch$Matching" "gains" "[I") (List.mem_cons_of_mem _ (w0 110 rfl))
  have hk4 := hts (.initialized R_S) (List.mem_cons_of_mem _ (w0 28 rfl))
  have hk5 := hts (.static y_S_pairIndex) (List.mem_cons_of_mem _ (w0 228 rfl))
  have hk6 := hts (.fieldLink R_M 15 "SurplusMatch$Matching" "best" "[I") (List.mem_cons_of_mem _ (w0 111 rfl))
  have hl := lv_entry ([.ref mq, .int x1, .int x2]) (n := 8) (Nat.le_of_ble_eq_true rfl)
  rw [lg_entry_eq]
  generalize (lg_sl ([.ref mq, .int x1, .int x2]) ++ List.replicate (8 - (lg_sl ([.ref mq, .int x1, .int x2])).length) Slot.unset).toArray = ls at hl ⊢
  have hl : lv_has ls 8 [(0, .ref mq), (1, .int x1), (2, .int x2)] := hl
  refine lv_aload_n hx hb d_M_lowestOfBest_0 rfl (lv_at hl 0 rfl) ?_
  refine va_get (D := (dC, dI)) (ci := 3) (v := .int m_pieceCount) (C := R_M) (T := F_M) (N := 10) hx hb hts hk1 hown hK hP 0 rfl rfl 5 (by decide) hk0 (fun _ h9 => h9) rfl d_M_lowestOfBest_1 ?_
  refine lv_iload_n hx hb d_M_lowestOfBest_4 rfl (lv_at hl 1 rfl) ?_
  refine lv_isub hx hb d_M_lowestOfBest_5 ?_
  refine lv_sipush (v := 1024) hx hb d_M_lowestOfBest_6 (by decide) ?_
  refine lv_imul hx hb d_M_lowestOfBest_9 ?_
  refine lv_istore_n (lv' := [(3, .int ((m_pieceCount - x1) * 1024)), (0, .ref mq), (1, .int x1), (2, .int x2)]) hx hb d_M_lowestOfBest_10 rfl hl (by decide) rfl (fun ls hl => ?_)
  refine lv_iload_n hx hb d_M_lowestOfBest_11 rfl (lv_at hl 0 rfl) ?_
  refine lv_sipush (v := 1024) hx hb d_M_lowestOfBest_12 (by decide) ?_
  refine lv_isub hx hb d_M_lowestOfBest_15 ?_
  refine lv_istore (lv' := [(4, .int (((m_pieceCount - x1) * 1024) - 1024)), (3, .int ((m_pieceCount - x1) * 1024)), (0, .ref mq), (1, .int x1), (2, .int x2)]) hx hb d_M_lowestOfBest_16 hl (by decide) rfl (fun ls hl => ?_)
  refine lv_iconst (v := 0) hx hb d_M_lowestOfBest_18 (by decide) ?_
  refine lv_istore (lv' := [(5, .int 0), (4, .int (((m_pieceCount - x1) * 1024) - 1024)), (3, .int ((m_pieceCount - x1) * 1024)), (0, .ref mq), (1, .int x1), (2, .int x2)]) hx hb d_M_lowestOfBest_19 hl (by decide) rfl (fun ls hl => ?_)
  have key21 : ∀ (K : Int32 → Int32 → Int32 → Int32 → Int32 → Option Int32) (_ : ∀ (y1a : Int32) (y2a : Int32) (y3a : Int32) (y4a : Int32) (y5a : Int32) (ls : Array Slot), lv_has ls 8 [(0, .ref mq), (1, .int y1a), (2, .int y2a), (3, .int y3a), (4, .int y4a), (5, .int y5a)] → K y1a y2a y3a y4a y5a = some res → W p l e (headSpec w_M_lowestOfBest ({ frames := 1, cells := 0, slots := 0, locals := 21 } : Room)).room s m ([.ref mq, .int x1, .int x2] : List Value).toArray below meth c s.heap [] 0 0 (MQ below (vp_Si (fun x => res = x)) ([.ref mq, .int x1, .int x2] : List Value).toArray s 0 0 (fun _ => False)) (F0 m 96 ls [])) (n : Nat) (y1a : Int32) (y2a : Int32) (y3a : Int32) (y4a : Int32) (y5a : Int32) (ls : Array Slot), lv_has ls 8 [(0, .ref mq), (1, .int y1a), (2, .int y2a), (3, .int y3a), (4, .int y4a), (5, .int y5a)] → L_M_lowestOfBest_21 N m_gains m_best m_orderCount K n y1a y2a y3a y4a y5a = some res → W p l e (headSpec w_M_lowestOfBest ({ frames := 1, cells := 0, slots := 0, locals := 21 } : Room)).room s m ([.ref mq, .int x1, .int x2] : List Value).toArray below meth c s.heap [] 0 0 (MQ below (vp_Si (fun x => res = x)) ([.ref mq, .int x1, .int x2] : List Value).toArray s 0 0 (fun _ => False)) (F0 m 21 ls []) := by
    intro K hK21 n
    induction n with
    | zero => intro y1a y2a y3a y4a y5a ls hl hm; exact absurd hm (by simp [L_M_lowestOfBest_21])
    | succ n ih21 =>
      intro y1a y2a y3a y4a y5a ls hl hm
      rw [L_M_lowestOfBest_21] at hm
      refine lv_iload hx hb d_M_lowestOfBest_21 (lv_at hl 5 rfl) ?_
      refine lv_aload_n hx hb d_M_lowestOfBest_23 rfl (lv_at hl 0 rfl) ?_
      refine va_get (D := (dC, dI)) (ci := 3) (v := .int m_orderCount) (C := R_M) (T := F_M) (N := 10) hx hb hts hk1 hown hK hP 0 rfl rfl 6 (by decide) hk2 (fun _ h9 => h9) rfl d_M_lowestOfBest_24 ?_
      refine lv_icmp_ge (tgt := 96) hx hb d_M_lowestOfBest_27 (by decide) (fun c9 => ?_) (fun c9 => ?_)
      · replace hm := if_t c9 hm
        have hl : lv_has ls 8 [(0, .ref mq), (1, .int y1a), (2, .int y2a), (3, .int y3a), (4, .int y4a), (5, .int y5a)] := lv_sub hl [0, 1, 2, 3, 4, 5] rfl
        exact hK21 y1a y2a y3a y4a y5a ls hl hm
      · replace hm := if_f c9 hm
        refine lv_aload_n hx hb d_M_lowestOfBest_30 rfl (lv_at hl 0 rfl) ?_
        refine va_get (D := (dC, dI)) (ci := 3) (v := .ref mq1) (C := R_M) (T := F_M) (N := 10) hx hb hts hk1 hown hK hP 0 rfl rfl 0 (by decide) hk3 (fun _ h9 => h9) rfl d_M_lowestOfBest_31 ?_
        refine lv_iload_n hx hb d_M_lowestOfBest_34 rfl (lv_at hl 1 rfl) ?_
        refine lv_iload hx hb d_M_lowestOfBest_35 (lv_at hl 5 rfl) ?_
        obtain ⟨r1, hc, hm⟩ := bd hm
        try dsimp only at hm
        refine vp_callSi (va_Run.run (va_runSN (As := [.int y1a, .int y5a]) (rest := [.ref mq1]) ⟨hx, hb, hml, hown, hts⟩ (c_S_pairIndex l dC dI cI y1a y5a N r1 hc) ⟨va_cnB 2 hts (gN (w0 229 rfl)) rfl rfl rfl hN hk4 q_S_pairIndex.2 ⟨Nat.le_of_ble_eq_true rfl, Nat.le_of_ble_eq_true rfl⟩, hk5, trivial⟩ ro_pre0 rfl rfl hl.1 rfl (lv_room (Nat.le_of_ble_eq_true rfl)) d_M_lowestOfBest_37 ⟨Nat.le_of_ble_eq_true rfl, Nat.le_of_ble_eq_true rfl⟩)) (fun r9 hr9 => ?_)
        subst hr9
        obtain ⟨h9, hm⟩ := gd hm
        refine va_iald hx hb hK hP 1 0 rfl rfl h9 d_M_lowestOfBest_40 ?_
        refine lv_istore (lv' := [(6, .int (m_gains r1.toNatClampNeg)), (0, .ref mq), (1, .int y1a), (2, .int y2a), (3, .int y3a), (4, .int y4a), (5, .int y5a)]) hx hb d_M_lowestOfBest_41 hl (by decide) rfl (fun ls hl => ?_)
        refine lv_iconst (v := 1) hx hb d_M_lowestOfBest_43 (by decide) ?_
        refine lv_iload hx hb d_M_lowestOfBest_44 (lv_at hl 6 rfl) ?_
        refine lv_ishl hx hb d_M_lowestOfBest_46 ?_
        refine lv_istore (lv' := [(7, .int ((1 : Int32) <<< (y5a &&& 31))), (6, .int (m_gains r1.toNatClampNeg)), (0, .ref mq), (1, .int y1a), (2, .int y2a), (3, .int y3a), (4, .int y4a), (5, .int y5a)]) hx hb d_M_lowestOfBest_47 hl (by decide) rfl (fun ls hl => ?_)
        refine lv_iload hx hb d_M_lowestOfBest_49 (lv_at hl 1 rfl) ?_
        refine lv_if_le (tgt := 90) hx hb d_M_lowestOfBest_51 (by decide) (fun c9 => ?_) (fun c9 => ?_)
        · replace hm := if_t c9 hm
          refine lv_iinc (v := (y5a + 1)) (lv' := [(5, .int (y5a + 1)), (7, .int ((1 : Int32) <<< (y5a &&& 31))), (6, .int (m_gains r1.toNatClampNeg)), (0, .ref mq), (1, .int y1a), (2, .int y2a), (3, .int y3a), (4, .int y4a)]) hx hb d_M_lowestOfBest_90 hl (k := 7) rfl rfl (by decide) rfl (fun ls hl => ?_)
          refine lv_goto (tgt := 21) hx hb d_M_lowestOfBest_93 (by decide) ?_
          have hl : lv_has ls 8 [(0, .ref mq), (1, .int y1a), (2, .int y2a), (3, .int y3a), (4, .int y4a), (5, .int (y5a + 1))] := lv_sub hl [3, 4, 5, 6, 7, 0] rfl
          exact ih21 y1a y2a y3a y4a (y5a + 1) ls hl hm
        · replace hm := if_f c9 hm
          refine lv_iload_n hx hb d_M_lowestOfBest_54 rfl (lv_at hl 4 rfl) ?_
          refine lv_iload hx hb d_M_lowestOfBest_55 (lv_at hl 0 rfl) ?_
          refine lv_iand hx hb d_M_lowestOfBest_57 ?_
          refine lv_if_eq (tgt := 90) hx hb d_M_lowestOfBest_58 (by decide) (fun c9 => ?_) (fun c9 => ?_)
          · replace hm := if_t c9 hm
            refine lv_iinc (v := (y5a + 1)) (lv' := [(5, .int (y5a + 1)), (7, .int ((1 : Int32) <<< (y5a &&& 31))), (6, .int (m_gains r1.toNatClampNeg)), (0, .ref mq), (1, .int y1a), (2, .int y2a), (3, .int y3a), (4, .int y4a)]) hx hb d_M_lowestOfBest_90 hl (k := 7) rfl rfl (by decide) rfl (fun ls hl => ?_)
            refine lv_goto (tgt := 21) hx hb d_M_lowestOfBest_93 (by decide) ?_
            have hl : lv_has ls 8 [(0, .ref mq), (1, .int y1a), (2, .int y2a), (3, .int y3a), (4, .int y4a), (5, .int (y5a + 1))] := lv_sub hl [3, 4, 5, 6, 7, 0] rfl
            exact ih21 y1a y2a y3a y4a (y5a + 1) ls hl hm
          · replace hm := if_f c9 hm
            refine lv_iload hx hb d_M_lowestOfBest_61 (lv_at hl 1 rfl) ?_
            refine lv_aload_n hx hb d_M_lowestOfBest_63 rfl (lv_at hl 2 rfl) ?_
            refine va_get (D := (dC, dI)) (ci := 3) (v := .ref mq2) (C := R_M) (T := F_M) (N := 10) hx hb hts hk1 hown hK hP 0 rfl rfl 1 (by decide) hk6 (fun _ h9 => h9) rfl d_M_lowestOfBest_64 ?_
            refine lv_iload hx hb d_M_lowestOfBest_67 (lv_at hl 6 rfl) ?_
            refine lv_iload_n hx hb d_M_lowestOfBest_69 rfl (lv_at hl 4 rfl) ?_
            refine lv_iadd hx hb d_M_lowestOfBest_70 ?_
            refine lv_iload hx hb d_M_lowestOfBest_71 (lv_at hl 0 rfl) ?_
            refine lv_isub hx hb d_M_lowestOfBest_73 ?_
            obtain ⟨h9, hm⟩ := gd hm
            refine va_iald hx hb hK hP 2 0 rfl rfl h9 d_M_lowestOfBest_74 ?_
            refine lv_iadd hx hb d_M_lowestOfBest_75 ?_
            refine lv_aload_n hx hb d_M_lowestOfBest_76 rfl (lv_at hl 2 rfl) ?_
            refine va_get (D := (dC, dI)) (ci := 3) (v := .ref mq2) (C := R_M) (T := F_M) (N := 10) hx hb hts hk1 hown hK hP 0 rfl rfl 1 (by decide) hk6 (fun _ h9 => h9) rfl d_M_lowestOfBest_77 ?_
            refine lv_iload_n hx hb d_M_lowestOfBest_80 rfl (lv_at hl 5 rfl) ?_
            refine lv_iload_n hx hb d_M_lowestOfBest_81 rfl (lv_at hl 4 rfl) ?_
            refine lv_iadd hx hb d_M_lowestOfBest_82 ?_
            obtain ⟨h9, hm⟩ := gd hm
            refine va_iald hx hb hK hP 2 0 rfl rfl h9 d_M_lowestOfBest_83 ?_
            refine lv_icmp_ne (tgt := 90) hx hb d_M_lowestOfBest_84 (by decide) (fun c9 => ?_) (fun c9 => ?_)
            · replace hm := if_f c9 hm
              refine lv_iinc (v := (y5a + 1)) (lv' := [(5, .int (y5a + 1)), (7, .int ((1 : Int32) <<< (y5a &&& 31))), (6, .int (m_gains r1.toNatClampNeg)), (0, .ref mq), (1, .int y1a), (2, .int y2a), (3, .int y3a), (4, .int y4a)]) hx hb d_M_lowestOfBest_90 hl (k := 7) rfl rfl (by decide) rfl (fun ls hl => ?_)
              refine lv_goto (tgt := 21) hx hb d_M_lowestOfBest_93 (by decide) ?_
              have hl : lv_has ls 8 [(0, .ref mq), (1, .int y1a), (2, .int y2a), (3, .int y3a), (4, .int y4a), (5, .int (y5a + 1))] := lv_sub hl [3, 4, 5, 6, 7, 0] rfl
              exact ih21 y1a y2a y3a y4a (y5a + 1) ls hl hm
            · replace hm := if_t c9 hm
              refine lv_iload hx hb d_M_lowestOfBest_87 (lv_at hl 7 rfl) ?_
              cases hm
              exact W.iret hx hb hr (fun t ht hW => ⟨_, rfl, rfl, ht⟩) (fun _ h => nomatch h) d_M_lowestOfBest_89
  have hl : lv_has ls 8 [(0, .ref mq), (1, .int x1), (2, .int x2), (3, .int ((m_pieceCount - x1) * 1024)), (4, .int (((m_pieceCount - x1) * 1024) - 1024)), (5, .int 0)] := lv_sub hl [3, 4, 5, 2, 1, 0] rfl
  refine key21 _ (fun y1a y2a y3a y4a y5a ls hl hm => ?_) N x1 x2 ((m_pieceCount - x1) * 1024) (((m_pieceCount - x1) * 1024) - 1024) 0 ls hl hm
  try dsimp only at hm
  refine lv_iconst (v := (-1)) hx hb d_M_lowestOfBest_96 (by decide) ?_
  cases hm
  exact W.iret hx hb hr (fun t ht hW => ⟨_, rfl, rfl, ht⟩) (fun _ h => nomatch h) d_M_lowestOfBest_97

def w_M_choose : List Cond := .code y_M_choose b_M_choose 3 none :: W0
theorem q_M_choose : y_M_choose.cls = R_M ∧ y_M_choose.cls ≠ "java/lang/invoke/MethodHandle" ∧ y_M_choose.cls ≠ "java/lang/invoke/VarHandle" ∧ (parseMethodDescriptor y_M_choose.desc).map (fun d => d.parameters.length) = some 0 := by decide +kernel
def L_M_choose_7 (N : Nat) (m_gains : Nat → Int32) (m_best : Nat → Int32) (m_pieceCount : Int32) (m_orderCount : Int32) (K : Int32 → Int32 → (Nat → Int32) → Option (Nat → Int32)) : Nat → Int32 → Int32 → (Nat → Int32) → Option (Nat → Int32)
  | 0, _, _, _ => none
  | n + 1, y1a, y2a, m_chosena =>
    (if m_pieceCount ≤ y2a then
    K y1a y2a m_chosena
   else
    ((m_M_lowestOfBest N m_gains m_best m_pieceCount m_orderCount y2a y1a).bind fun r2 =>
      (if y2a < 0 ∨ 10 ≤ y2a.toNatClampNeg then none else
      (if y2a < 0 ∨ 10 ≤ y2a.toNatClampNeg then none else
      (if ((upd m_chosena y2a.toNatClampNeg r2) y2a.toNatClampNeg) = (-1) then
        L_M_choose_7 N m_gains m_best m_pieceCount m_orderCount K n y1a (y2a + 1) (upd m_chosena y2a.toNatClampNeg r2)
       else
        (if y2a < 0 ∨ 10 ≤ y2a.toNatClampNeg then none else
        L_M_choose_7 N m_gains m_best m_pieceCount m_orderCount K n (y1a - ((1 : Int32) <<< (((upd m_chosena y2a.toNatClampNeg r2) y2a.toNatClampNeg) &&& 31))) (y2a + 1) (upd m_chosena y2a.toNatClampNeg r2)))))))
def m_M_choose (N : Nat) (m_gains : Nat → Int32) (m_best : Nat → Int32) (m_chosen : Nat → Int32) (m_pieceCount : Int32) (m_orderCount : Int32) : Option (Nat → Int32) :=
  ((m_M_allOrders m_orderCount).bind fun r1 =>
  L_M_choose_7 N m_gains m_best m_pieceCount m_orderCount (fun y1a y2a m_chosena =>
    some m_chosena) N r1 0 m_chosen)
set_option maxHeartbeats 4000000 in
set_option maxRecDepth 100000 in
theorem c_M_choose (l : Launch) (dC : Nat → ClassId) (dI : Nat → Nat → Nat) (cI : ClassId) (mq mq1 mq2 mq3 mq4 mq5 : Nat) (sz : Nat) (m_gains : Nat → Int32) (m_best : Nat → Int32) (m_chosen : Nat → Int32) (m_pieceDuals : Nat → Int32) (m_orderDuals : Nat → Int32) (m_pieceCount : Int32) (m_orderCount : Int32) (m_pairs : Int32) (m_worthSum : Int32) (m_upToDate : Int32)  (N : Nat) (res : (Nat → Int32)) (hm : m_M_choose N m_gains m_best m_chosen m_pieceCount m_orderCount = some res) : Met l y_M_choose w_M_choose ({ frames := 2, cells := 0, slots := 0, locals := 48 } : Room) (va_Pc [.ref mq] (fun U => U.heap.size = sz ∧ va_P (dC, dI) classes [(mq, .inr (3, [.ref mq1, .ref mq2, .ref mq3, .ref mq4, .ref mq5, .int m_pieceCount, .int m_orderCount, .int m_pairs, .int m_worthSum, .int m_upToDate])), (mq1, .inl (cI, 100, .inl m_gains)), (mq2, .inl (cI, 11264, .inl m_best)), (mq3, .inl (cI, 10, .inl m_chosen)), (mq4, .inl (cI, 10, .inl m_pieceDuals)), (mq5, .inl (cI, 10, .inl m_orderDuals))] U.heap ∧ va_K (dC, dI) classes [(cI, .int)] U ∧ va_D (fun _ => True) [(mq, .inr (3, [.ref mq1, .ref mq2, .ref mq3, .ref mq4, .ref mq5, .int m_pieceCount, .int m_orderCount, .int m_pairs, .int m_worthSum, .int m_upToDate])), (mq1, .inl (cI, 100, .inl m_gains)), (mq2, .inl (cI, 11264, .inl m_best)), (mq3, .inl (cI, 10, .inl m_chosen)), (mq4, .inl (cI, 10, .inl m_pieceDuals)), (mq5, .inl (cI, 10, .inl m_orderDuals))] ∧ nw U)) (va_Qv (fun _ : Unit => True) (fun _ t => va_P (dC, dI) classes [(mq, .inr (3, [.ref mq1, .ref mq2, .ref mq3, .ref mq4, .ref mq5, .int m_pieceCount, .int m_orderCount, .int m_pairs, .int m_worthSum, .int m_upToDate])), (mq1, .inl (cI, 100, .inl m_gains)), (mq2, .inl (cI, 11264, .inl m_best)), (mq3, .inl (cI, 10, .inl res)), (mq4, .inl (cI, 10, .inl m_pieceDuals)), (mq5, .inl (cI, 10, .inl m_orderDuals))] t.heap ∧ va_K (dC, dI) classes [(cI, .int)] t ∧ va_D (va_A [(mq, .inr (3, [.ref mq1, .ref mq2, .ref mq3, .ref mq4, .ref mq5, .int m_pieceCount, .int m_orderCount, .int m_pairs, .int m_worthSum, .int m_upToDate])), (mq1, .inl (cI, 100, .inl m_gains)), (mq2, .inl (cI, 11264, .inl m_best)), (mq3, .inl (cI, 10, .inl m_chosen)), (mq4, .inl (cI, 10, .inl m_pieceDuals)), (mq5, .inl (cI, 10, .inl m_orderDuals))] sz) [(mq, .inr (3, [.ref mq1, .ref mq2, .ref mq3, .ref mq4, .ref mq5, .int m_pieceCount, .int m_orderCount, .int m_pairs, .int m_worthSum, .int m_upToDate])), (mq1, .inl (cI, 100, .inl m_gains)), (mq2, .inl (cI, 11264, .inl m_best)), (mq3, .inl (cI, 10, .inl res)), (mq4, .inl (cI, 10, .inl m_pieceDuals)), (mq5, .inl (cI, 10, .inl m_orderDuals))]) (va_A [(mq, .inr (3, [.ref mq1, .ref mq2, .ref mq3, .ref mq4, .ref mq5, .int m_pieceCount, .int m_orderCount, .int m_pairs, .int m_worthSum, .int m_upToDate])), (mq1, .inl (cI, 100, .inl m_gains)), (mq2, .inl (cI, 11264, .inl m_best)), (mq3, .inl (cI, 10, .inl m_chosen)), (mq4, .inl (cI, 10, .inl m_pieceDuals)), (mq5, .inl (cI, 10, .inl m_orderDuals))] sz)) 0 0 (va_A [(mq, .inr (3, [.ref mq1, .ref mq2, .ref mq3, .ref mq4, .ref mq5, .int m_pieceCount, .int m_orderCount, .int m_pairs, .int m_worthSum, .int m_upToDate])), (mq1, .inl (cI, 100, .inl m_gains)), (mq2, .inl (cI, 11264, .inl m_best)), (mq3, .inl (cI, 10, .inl m_chosen)), (mq4, .inl (cI, 10, .inl m_pieceDuals)), (mq5, .inl (cI, 10, .inl m_orderDuals))] sz) := by
  unfold m_M_choose at hm
  refine Met.ofW (cc := b_M_choose) (maxL := 3) (ret := none) (by decide) rfl ?_
  intro p e s m args below meth c s₁ B hml hv
  obtain ⟨rfl, hsz, hP, hK, hD0, hN⟩ := hv
  have hx := B.exec
  have hb := B.bytes
  have hr := B.returns
  have hts := atoms_spec (ws := w_M_choose) B.pre
  have hown : s.vm.findClass R_M = some m.cls := findClass_of_methodNamed B.named
  have hlocks := B.notSynchronized
  subst hsz
  have hD := hD0.self (sz := s.heap.size)
  generalize hAe : va_A [(mq, .inr (3, [.ref mq1, .ref mq2, .ref mq3, .ref mq4, .ref mq5, .int m_pieceCount, .int m_orderCount, .int m_pairs, .int m_worthSum, .int m_upToDate])), (mq1, .inl (cI, 100, .inl m_gains)), (mq2, .inl (cI, 11264, .inl m_best)), (mq3, .inl (cI, 10, .inl m_chosen)), (mq4, .inl (cI, 10, .inl m_pieceDuals)), (mq5, .inl (cI, 10, .inl m_orderDuals))] s.heap.size = A at hD ⊢
  have hA : ∀ q : Nat, s.heap.size ≤ q → A q := fun q h => by rw [← hAe]; exact Or.inr h
  have hS : va_S A s.heap s.heap [] := va_S.rf
  have hk0 := hts (.fieldLink R_M 42 "SurplusMatch$Matching" "pieceCount" "I") (List.mem_cons_of_mem _ (w0 115 rfl))
  have hk1 : ∀ w ∈ w_M, w ∈ w_M_choose := fun w h => List.mem_cons_of_mem _ (i_M w h)
  have hk2 := hts (.fieldLink R_M 18 "SurplusMatch$Matching" "chosen" "[I") (List.mem_cons_of_mem _ (w0 112 rfl))
  have hl := lv_entry ([.ref mq]) (n := 3) (Nat.le_of_ble_eq_true rfl)
  rw [lg_entry_eq]
  generalize (lg_sl ([.ref mq]) ++ List.replicate (3 - (lg_sl ([.ref mq])).length) Slot.unset).toArray = ls at hl ⊢
  have hl : lv_has ls 3 [(0, .ref mq)] := hl
  refine lv_aload_n hx hb d_M_choose_0 rfl (lv_at hl 0 rfl) ?_
  obtain ⟨r1, hc, hm⟩ := bd hm
  try dsimp only at hm
  refine vp_callSi (W.runV (As := []) (rest := []) ⟨hx, hb, hml, hown, hts⟩ (c_M_allOrders l dC dI cI mq mq1 mq2 mq3 mq4 mq5 m_gains m_best m_chosen m_pieceDuals m_orderDuals m_pieceCount m_orderCount m_pairs m_worthSum m_upToDate  N r1 hc) (cwV 0 hts (gV (w0 253 rfl) (w0 254 rfl) (w0 7 rfl) (w0 32 rfl) (w0 255 rfl)) rfl rfl rfl q_M_allOrders ⟨Nat.le_of_ble_eq_true rfl, Nat.le_of_ble_eq_true rfl⟩) (ro_preV [0, 1, 2, 3, 4, 5] rfl hK hP hN 3 0 (R_M, F_M, 10) rfl rfl) rfl rfl hl.1 rfl (lv_room (Nat.le_of_ble_eq_true rfl)) d_M_choose_1 ⟨Nat.le_of_ble_eq_true rfl, Nat.le_of_ble_eq_true rfl⟩) (fun r9 hr9 => ?_)
  subst hr9
  refine lv_istore_n (lv' := [(1, .int r1), (0, .ref mq)]) hx hb d_M_choose_4 rfl hl (by decide) rfl (fun ls hl => ?_)
  refine lv_iconst (v := 0) hx hb d_M_choose_5 (by decide) ?_
  refine lv_istore_n (lv' := [(2, .int 0), (1, .int r1), (0, .ref mq)]) hx hb d_M_choose_6 rfl hl (by decide) rfl (fun ls hl => ?_)
  have key7 : ∀ (K : Int32 → Int32 → (Nat → Int32) → Option (Nat → Int32)) (_ : ∀ (y1a : Int32) (y2a : Int32) (m_chosena : Nat → Int32) (H : Heap) (locs : List Loc) (ls : Array Slot), lv_has ls 3 [(0, .ref mq), (1, .int y1a), (2, .int y2a)] → va_P (dC, dI) classes [(mq, .inr (3, [.ref mq1, .ref mq2, .ref mq3, .ref mq4, .ref mq5, .int m_pieceCount, .int m_orderCount, .int m_pairs, .int m_worthSum, .int m_upToDate])), (mq1, .inl (cI, 100, .inl m_gains)), (mq2, .inl (cI, 11264, .inl m_best)), (mq3, .inl (cI, 10, .inl m_chosena)), (mq4, .inl (cI, 10, .inl m_pieceDuals)), (mq5, .inl (cI, 10, .inl m_orderDuals))] H → va_D A [(mq, .inr (3, [.ref mq1, .ref mq2, .ref mq3, .ref mq4, .ref mq5, .int m_pieceCount, .int m_orderCount, .int m_pairs, .int m_worthSum, .int m_upToDate])), (mq1, .inl (cI, 100, .inl m_gains)), (mq2, .inl (cI, 11264, .inl m_best)), (mq3, .inl (cI, 10, .inl m_chosena)), (mq4, .inl (cI, 10, .inl m_pieceDuals)), (mq5, .inl (cI, 10, .inl m_orderDuals))] → va_S A s.heap H locs → K y1a y2a m_chosena = some res → W p l e (headSpec w_M_choose ({ frames := 2, cells := 0, slots := 0, locals := 48 } : Room)).room s m ([.ref mq] : List Value).toArray below meth c H locs 0 0 (MQ below (va_Qv (fun _ : Unit => True) (fun _ t => va_P (dC, dI) classes [(mq, .inr (3, [.ref mq1, .ref mq2, .ref mq3, .ref mq4, .ref mq5, .int m_pieceCount, .int m_orderCount, .int m_pairs, .int m_worthSum, .int m_upToDate])), (mq1, .inl (cI, 100, .inl m_gains)), (mq2, .inl (cI, 11264, .inl m_best)), (mq3, .inl (cI, 10, .inl res)), (mq4, .inl (cI, 10, .inl m_pieceDuals)), (mq5, .inl (cI, 10, .inl m_orderDuals))] t.heap ∧ va_K (dC, dI) classes [(cI, .int)] t ∧ va_D A [(mq, .inr (3, [.ref mq1, .ref mq2, .ref mq3, .ref mq4, .ref mq5, .int m_pieceCount, .int m_orderCount, .int m_pairs, .int m_worthSum, .int m_upToDate])), (mq1, .inl (cI, 100, .inl m_gains)), (mq2, .inl (cI, 11264, .inl m_best)), (mq3, .inl (cI, 10, .inl res)), (mq4, .inl (cI, 10, .inl m_pieceDuals)), (mq5, .inl (cI, 10, .inl m_orderDuals))]) A) ([.ref mq] : List Value).toArray s 0 0 A) (F0 m 54 ls [])) (n : Nat) (y1a : Int32) (y2a : Int32) (m_chosena : Nat → Int32) (H : Heap) (locs : List Loc) (ls : Array Slot), lv_has ls 3 [(0, .ref mq), (1, .int y1a), (2, .int y2a)] → va_P (dC, dI) classes [(mq, .inr (3, [.ref mq1, .ref mq2, .ref mq3, .ref mq4, .ref mq5, .int m_pieceCount, .int m_orderCount, .int m_pairs, .int m_worthSum, .int m_upToDate])), (mq1, .inl (cI, 100, .inl m_gains)), (mq2, .inl (cI, 11264, .inl m_best)), (mq3, .inl (cI, 10, .inl m_chosena)), (mq4, .inl (cI, 10, .inl m_pieceDuals)), (mq5, .inl (cI, 10, .inl m_orderDuals))] H → va_D A [(mq, .inr (3, [.ref mq1, .ref mq2, .ref mq3, .ref mq4, .ref mq5, .int m_pieceCount, .int m_orderCount, .int m_pairs, .int m_worthSum, .int m_upToDate])), (mq1, .inl (cI, 100, .inl m_gains)), (mq2, .inl (cI, 11264, .inl m_best)), (mq3, .inl (cI, 10, .inl m_chosena)), (mq4, .inl (cI, 10, .inl m_pieceDuals)), (mq5, .inl (cI, 10, .inl m_orderDuals))] → va_S A s.heap H locs → L_M_choose_7 N m_gains m_best m_pieceCount m_orderCount K n y1a y2a m_chosena = some res → W p l e (headSpec w_M_choose ({ frames := 2, cells := 0, slots := 0, locals := 48 } : Room)).room s m ([.ref mq] : List Value).toArray below meth c H locs 0 0 (MQ below (va_Qv (fun _ : Unit => True) (fun _ t => va_P (dC, dI) classes [(mq, .inr (3, [.ref mq1, .ref mq2, .ref mq3, .ref mq4, .ref mq5, .int m_pieceCount, .int m_orderCount, .int m_pairs, .int m_worthSum, .int m_upToDate])), (mq1, .inl (cI, 100, .inl m_gains)), (mq2, .inl (cI, 11264, .inl m_best)), (mq3, .inl (cI, 10, .inl res)), (mq4, .inl (cI, 10, .inl m_pieceDuals)), (mq5, .inl (cI, 10, .inl m_orderDuals))] t.heap ∧ va_K (dC, dI) classes [(cI, .int)] t ∧ va_D A [(mq, .inr (3, [.ref mq1, .ref mq2, .ref mq3, .ref mq4, .ref mq5, .int m_pieceCount, .int m_orderCount, .int m_pairs, .int m_worthSum, .int m_upToDate])), (mq1, .inl (cI, 100, .inl m_gains)), (mq2, .inl (cI, 11264, .inl m_best)), (mq3, .inl (cI, 10, .inl res)), (mq4, .inl (cI, 10, .inl m_pieceDuals)), (mq5, .inl (cI, 10, .inl m_orderDuals))]) A) ([.ref mq] : List Value).toArray s 0 0 A) (F0 m 7 ls []) := by
    intro K hK7 n
    induction n with
    | zero => intro y1a y2a m_chosena H locs ls hl hP hD hS hm; exact absurd hm (by simp [L_M_choose_7])
    | succ n ih7 =>
      intro y1a y2a m_chosena H locs ls hl hP hD hS hm
      rw [L_M_choose_7] at hm
      refine lv_iload_n hx hb d_M_choose_7 rfl (lv_at hl 2 rfl) ?_
      refine lv_aload_n hx hb d_M_choose_8 rfl (lv_at hl 0 rfl) ?_
      refine va_get (D := (dC, dI)) (ci := 3) (v := .int m_pieceCount) (C := R_M) (T := F_M) (N := 10) hx hb hts hk1 hown hK hP 0 rfl rfl 5 (by decide) hk0 (fun _ h9 => h9) rfl d_M_choose_9 ?_
      refine lv_icmp_ge (tgt := 54) hx hb d_M_choose_12 (by decide) (fun c9 => ?_) (fun c9 => ?_)
      · replace hm := if_t c9 hm
        have hl : lv_has ls 3 [(0, .ref mq), (1, .int y1a), (2, .int y2a)] := lv_sub hl [0, 1, 2] rfl
        exact hK7 y1a y2a m_chosena _ _ ls hl hP hD hS hm
      · replace hm := if_f c9 hm
        refine lv_aload_n hx hb d_M_choose_15 rfl (lv_at hl 0 rfl) ?_
        refine va_get (D := (dC, dI)) (ci := 3) (v := .ref mq3) (C := R_M) (T := F_M) (N := 10) hx hb hts hk1 hown hK hP 0 rfl rfl 2 (by decide) hk2 (fun _ h9 => h9) rfl d_M_choose_16 ?_
        refine lv_iload_n hx hb d_M_choose_19 rfl (lv_at hl 2 rfl) ?_
        refine lv_aload_n hx hb d_M_choose_20 rfl (lv_at hl 0 rfl) ?_
        refine lv_iload_n hx hb d_M_choose_21 rfl (lv_at hl 2 rfl) ?_
        refine lv_iload_n hx hb d_M_choose_22 rfl (lv_at hl 1 rfl) ?_
        obtain ⟨r2, hc, hm⟩ := bd hm
        try dsimp only at hm
        refine vp_callSi (W.runV (As := [.int y2a, .int y1a]) (rest := [.int y2a, .ref mq3]) ⟨hx, hb, hml, hown, hts⟩ (c_M_lowestOfBest l dC dI cI mq mq1 mq2 mq3 mq4 mq5 m_gains m_best m_chosena m_pieceDuals m_orderDuals m_pieceCount m_orderCount m_pairs m_worthSum m_upToDate y2a y1a N r2 hc) (cwV 2 hts (gV (w0 256 rfl) (w0 257 rfl) (w0 8 rfl) (w0 32 rfl) (w0 258 rfl)) rfl rfl rfl q_M_lowestOfBest ⟨Nat.le_of_ble_eq_true rfl, Nat.le_of_ble_eq_true rfl⟩) (ro_preV [0, 1, 2, 3, 4, 5] rfl hK hP hN 3 0 (R_M, F_M, 10) rfl rfl) rfl rfl hl.1 rfl (lv_room (Nat.le_of_ble_eq_true rfl)) d_M_choose_23 ⟨Nat.le_of_ble_eq_true rfl, Nat.le_of_ble_eq_true rfl⟩) (fun r9 hr9 => ?_)
        subst hr9
        obtain ⟨h9, hm⟩ := gd hm
        refine va_iast hx hb hK hP hD hS 3 0 rfl rfl h9 d_M_choose_26 (fun H locs hP hD hS => ?_)
        have hP : va_P (dC, dI) classes [(mq, .inr (3, [.ref mq1, .ref mq2, .ref mq3, .ref mq4, .ref mq5, .int m_pieceCount, .int m_orderCount, .int m_pairs, .int m_worthSum, .int m_upToDate])), (mq1, .inl (cI, 100, .inl m_gains)), (mq2, .inl (cI, 11264, .inl m_best)), (mq3, .inl (cI, 10, .inl (upd m_chosena y2a.toNatClampNeg r2))), (mq4, .inl (cI, 10, .inl m_pieceDuals)), (mq5, .inl (cI, 10, .inl m_orderDuals))] H := hP
        have hD : va_D A [(mq, .inr (3, [.ref mq1, .ref mq2, .ref mq3, .ref mq4, .ref mq5, .int m_pieceCount, .int m_orderCount, .int m_pairs, .int m_worthSum, .int m_upToDate])), (mq1, .inl (cI, 100, .inl m_gains)), (mq2, .inl (cI, 11264, .inl m_best)), (mq3, .inl (cI, 10, .inl (upd m_chosena y2a.toNatClampNeg r2))), (mq4, .inl (cI, 10, .inl m_pieceDuals)), (mq5, .inl (cI, 10, .inl m_orderDuals))] := hD
        refine lv_aload_n hx hb d_M_choose_27 rfl (lv_at hl 0 rfl) ?_
        refine va_get (D := (dC, dI)) (ci := 3) (v := .ref mq3) (C := R_M) (T := F_M) (N := 10) hx hb hts hk1 hown hK hP 0 rfl rfl 2 (by decide) hk2 (fun _ h9 => h9) rfl d_M_choose_28 ?_
        refine lv_iload_n hx hb d_M_choose_31 rfl (lv_at hl 2 rfl) ?_
        obtain ⟨h9, hm⟩ := gd hm
        refine va_iald hx hb hK hP 3 0 rfl rfl h9 d_M_choose_32 ?_
        refine lv_iconst (v := (-1)) hx hb d_M_choose_33 (by decide) ?_
        refine lv_icmp_eq (tgt := 48) hx hb d_M_choose_34 (by decide) (fun c9 => ?_) (fun c9 => ?_)
        · replace hm := if_t c9 hm
          refine lv_iinc (v := (y2a + 1)) (lv' := [(2, .int (y2a + 1)), (0, .ref mq), (1, .int y1a)]) hx hb d_M_choose_48 hl (k := 2) rfl rfl (by decide) rfl (fun ls hl => ?_)
          refine lv_goto (tgt := 7) hx hb d_M_choose_51 (by decide) ?_
          have hl : lv_has ls 3 [(0, .ref mq), (1, .int y1a), (2, .int (y2a + 1))] := lv_sub hl [1, 2, 0] rfl
          exact ih7 y1a (y2a + 1) (upd m_chosena y2a.toNatClampNeg r2) _ _ ls hl hP hD hS hm
        · replace hm := if_f c9 hm
          refine lv_iload_n hx hb d_M_choose_37 rfl (lv_at hl 1 rfl) ?_
          refine lv_iconst (v := 1) hx hb d_M_choose_38 (by decide) ?_
          refine lv_aload_n hx hb d_M_choose_39 rfl (lv_at hl 0 rfl) ?_
          refine va_get (D := (dC, dI)) (ci := 3) (v := .ref mq3) (C := R_M) (T := F_M) (N := 10) hx hb hts hk1 hown hK hP 0 rfl rfl 2 (by decide) hk2 (fun _ h9 => h9) rfl d_M_choose_40 ?_
          refine lv_iload_n hx hb d_M_choose_43 rfl (lv_at hl 2 rfl) ?_
          obtain ⟨h9, hm⟩ := gd hm
          refine va_iald hx hb hK hP 3 0 rfl rfl h9 d_M_choose_44 ?_
          refine lv_ishl hx hb d_M_choose_45 ?_
          refine lv_isub hx hb d_M_choose_46 ?_
          refine lv_istore_n (lv' := [(1, .int (y1a - ((1 : Int32) <<< (((upd m_chosena y2a.toNatClampNeg r2) y2a.toNatClampNeg) &&& 31)))), (0, .ref mq), (2, .int y2a)]) hx hb d_M_choose_47 rfl hl (by decide) rfl (fun ls hl => ?_)
          refine lv_iinc (v := (y2a + 1)) (lv' := [(2, .int (y2a + 1)), (1, .int (y1a - ((1 : Int32) <<< (((upd m_chosena y2a.toNatClampNeg r2) y2a.toNatClampNeg) &&& 31)))), (0, .ref mq)]) hx hb d_M_choose_48 hl (k := 2) rfl rfl (by decide) rfl (fun ls hl => ?_)
          refine lv_goto (tgt := 7) hx hb d_M_choose_51 (by decide) ?_
          have hl : lv_has ls 3 [(0, .ref mq), (1, .int (y1a - ((1 : Int32) <<< (((upd m_chosena y2a.toNatClampNeg r2) y2a.toNatClampNeg) &&& 31)))), (2, .int (y2a + 1))] := lv_sub hl [2, 1, 0] rfl
          exact ih7 (y1a - ((1 : Int32) <<< (((upd m_chosena y2a.toNatClampNeg r2) y2a.toNatClampNeg) &&& 31))) (y2a + 1) (upd m_chosena y2a.toNatClampNeg r2) _ _ ls hl hP hD hS hm
  have hl : lv_has ls 3 [(0, .ref mq), (1, .int r1), (2, .int 0)] := lv_sub hl [2, 1, 0] rfl
  refine key7 _ (fun y1a y2a m_chosena H locs ls hl hP hD hS hm => ?_) N r1 0 m_chosen _ _ ls hl hP hD hS hm
  try dsimp only at hm
  cases hm
  refine W.widen (k := 0) (n := 0) (Nat.le_of_ble_eq_true rfl) (Nat.le_of_ble_eq_true rfl) ?_
  exact W.vret hx hb hr (fun t ht hW => ⟨⟨(), rfl, trivial, by rw [ht]; exact hP, va_K.moved hW.alike hK, hD⟩, hS.F ht⟩) hS.2.2 d_M_choose_54

def w_M_prove : List Cond := .code y_M_prove b_M_prove 4 none :: W0
theorem q_M_prove : y_M_prove.cls = R_M ∧ y_M_prove.cls ≠ "java/lang/invoke/MethodHandle" ∧ y_M_prove.cls ≠ "java/lang/invoke/VarHandle" ∧ (parseMethodDescriptor y_M_prove.desc).map (fun d => d.parameters.length) = some 0 := by decide +kernel
def L_M_prove_42 (N : Nat) (m_best : Nat → Int32) (m_orderCount : Int32) (K : Int32 → Int32 → (Nat → Int32) → (Nat → Int32) → Int32 → Int32 → Option ((Nat → Int32) × (Nat → Int32) × Int32 × Int32)) : Nat → Int32 → Int32 → (Nat → Int32) → (Nat → Int32) → Int32 → Int32 → Option ((Nat → Int32) × (Nat → Int32) × Int32 × Int32)
  | 0, _, _, _, _, _, _ => none
  | n + 1, y1a, y2a, m_pieceDualsa, m_orderDualsa, m_pairsa, m_worthSuma =>
    (if m_orderCount ≤ y2a then
    K y1a y2a m_pieceDualsa m_orderDualsa m_pairsa m_worthSuma
   else
    (if (y1a - ((1 : Int32) <<< (y2a &&& 31))) < 0 ∨ 11264 ≤ (y1a - ((1 : Int32) <<< (y2a &&& 31))).toNatClampNeg then none else
    (if y2a < 0 ∨ 10 ≤ y2a.toNatClampNeg then none else
    L_M_prove_42 N m_best m_orderCount K n y1a (y2a + 1) m_pieceDualsa (upd m_orderDualsa y2a.toNatClampNeg (m_worthSuma - ((m_best (y1a - ((1 : Int32) <<< (y2a &&& 31))).toNatClampNeg) / 16))) m_pairsa m_worthSuma)))
def L_M_prove_82 (N : Nat) (m_gains : Nat → Int32) (m_chosen : Nat → Int32) (m_pieceCount : Int32) (K : Int32 → Int32 → (Nat → Int32) → (Nat → Int32) → Int32 → Int32 → Option ((Nat → Int32) × (Nat → Int32) × Int32 × Int32)) : Nat → Int32 → Int32 → (Nat → Int32) → (Nat → Int32) → Int32 → Int32 → Option ((Nat → Int32) × (Nat → Int32) × Int32 × Int32)
  | 0, _, _, _, _, _, _ => none
  | n + 1, y1b, y2b, m_pieceDualsb, m_orderDualsb, m_pairsb, m_worthSumb =>
    (if m_pieceCount ≤ y2b then
    K y1b y2b m_pieceDualsb m_orderDualsb m_pairsb m_worthSumb
   else
    (if y2b < 0 ∨ 10 ≤ y2b.toNatClampNeg then none else
    (if (m_chosen y2b.toNatClampNeg) = (-1) then
      (if y2b < 0 ∨ 10 ≤ y2b.toNatClampNeg then none else
      L_M_prove_82 N m_gains m_chosen m_pieceCount K n y1b (y2b + 1) (upd m_pieceDualsb y2b.toNatClampNeg 0) m_orderDualsb m_pairsb m_worthSumb)
     else
      ((m_S_pairIndex y2b (m_chosen y2b.toNatClampNeg)).bind fun r2 =>
        (if r2 < 0 ∨ 100 ≤ r2.toNatClampNeg then none else
        (if (m_chosen y2b.toNatClampNeg) < 0 ∨ 10 ≤ (m_chosen y2b.toNatClampNeg).toNatClampNeg then none else
        (if y2b < 0 ∨ 10 ≤ y2b.toNatClampNeg then none else
        L_M_prove_82 N m_gains m_chosen m_pieceCount K n y1b (y2b + 1) (upd m_pieceDualsb y2b.toNatClampNeg (((m_gains r2.toNatClampNeg) / 16) - (m_orderDualsb (m_chosen y2b.toNatClampNeg).toNatClampNeg))) m_orderDualsb m_pairsb m_worthSumb)))))))
def m_M_prove (N : Nat) (m_gains : Nat → Int32) (m_best : Nat → Int32) (m_chosen : Nat → Int32) (m_pieceDuals : Nat → Int32) (m_orderDuals : Nat → Int32) (m_pieceCount : Int32) (m_orderCount : Int32) : Option ((Nat → Int32) × (Nat → Int32) × Int32 × Int32) :=
  ((m_M_allOrders m_orderCount).bind fun r1 =>
  (if ((m_pieceCount * 1024) + r1) < 0 ∨ 11264 ≤ ((m_pieceCount * 1024) + r1).toNatClampNeg then none else
  (if ((m_pieceCount * 1024) + r1) < 0 ∨ 11264 ≤ ((m_pieceCount * 1024) + r1).toNatClampNeg then none else
  L_M_prove_42 N m_best m_orderCount (fun y1a y2a m_pieceDualsa m_orderDualsa m_pairsa m_worthSuma =>
    L_M_prove_82 N m_gains m_chosen m_pieceCount (fun y1b y2b m_pieceDualsb m_orderDualsb m_pairsb m_worthSumb =>
      some (m_pieceDualsb, m_orderDualsb, m_pairsb, m_worthSumb)) N y1a 0 m_pieceDualsa m_orderDualsa m_pairsa m_worthSuma) N ((m_pieceCount * 1024) + r1) 0 m_pieceDuals m_orderDuals ((m_best ((m_pieceCount * 1024) + r1).toNatClampNeg) - (m_best ((m_pieceCount * 1024) + r1).toNatClampNeg) / 16 * 16) ((m_best ((m_pieceCount * 1024) + r1).toNatClampNeg) / 16))))
set_option maxHeartbeats 4000000 in
set_option maxRecDepth 100000 in
theorem c_M_prove (l : Launch) (dC : Nat → ClassId) (dI : Nat → Nat → Nat) (cI : ClassId) (mq mq1 mq2 mq3 mq4 mq5 : Nat) (sz : Nat) (m_gains : Nat → Int32) (m_best : Nat → Int32) (m_chosen : Nat → Int32) (m_pieceDuals : Nat → Int32) (m_orderDuals : Nat → Int32) (m_pieceCount : Int32) (m_orderCount : Int32) (m_pairs : Int32) (m_worthSum : Int32) (m_upToDate : Int32)  (N : Nat) (res : (Nat → Int32) × (Nat → Int32) × Int32 × Int32) (hm : m_M_prove N m_gains m_best m_chosen m_pieceDuals m_orderDuals m_pieceCount m_orderCount = some res) : Met l y_M_prove w_M_prove ({ frames := 1, cells := 0, slots := 0, locals := 21 } : Room) (va_Pc [.ref mq] (fun U => U.heap.size = sz ∧ va_P (dC, dI) classes [(mq, .inr (3, [.ref mq1, .ref mq2, .ref mq3, .ref mq4, .ref mq5, .int m_pieceCount, .int m_orderCount, .int m_pairs, .int m_worthSum, .int m_upToDate])), (mq1, .inl (cI, 100, .inl m_gains)), (mq2, .inl (cI, 11264, .inl m_best)), (mq3, .inl (cI, 10, .inl m_chosen)), (mq4, .inl (cI, 10, .inl m_pieceDuals)), (mq5, .inl (cI, 10, .inl m_orderDuals))] U.heap ∧ va_K (dC, dI) classes [(cI, .int)] U ∧ va_D (fun _ => True) [(mq, .inr (3, [.ref mq1, .ref mq2, .ref mq3, .ref mq4, .ref mq5, .int m_pieceCount, .int m_orderCount, .int m_pairs, .int m_worthSum, .int m_upToDate])), (mq1, .inl (cI, 100, .inl m_gains)), (mq2, .inl (cI, 11264, .inl m_best)), (mq3, .inl (cI, 10, .inl m_chosen)), (mq4, .inl (cI, 10, .inl m_pieceDuals)), (mq5, .inl (cI, 10, .inl m_orderDuals))] ∧ nw U)) (va_Qv (fun _ : Unit => True) (fun _ t => va_P (dC, dI) classes [(mq, .inr (3, [.ref mq1, .ref mq2, .ref mq3, .ref mq4, .ref mq5, .int m_pieceCount, .int m_orderCount, .int res.2.2.1, .int res.2.2.2, .int m_upToDate])), (mq1, .inl (cI, 100, .inl m_gains)), (mq2, .inl (cI, 11264, .inl m_best)), (mq3, .inl (cI, 10, .inl m_chosen)), (mq4, .inl (cI, 10, .inl res.1)), (mq5, .inl (cI, 10, .inl res.2.1))] t.heap ∧ va_K (dC, dI) classes [(cI, .int)] t ∧ va_D (va_A [(mq, .inr (3, [.ref mq1, .ref mq2, .ref mq3, .ref mq4, .ref mq5, .int m_pieceCount, .int m_orderCount, .int m_pairs, .int m_worthSum, .int m_upToDate])), (mq1, .inl (cI, 100, .inl m_gains)), (mq2, .inl (cI, 11264, .inl m_best)), (mq3, .inl (cI, 10, .inl m_chosen)), (mq4, .inl (cI, 10, .inl m_pieceDuals)), (mq5, .inl (cI, 10, .inl m_orderDuals))] sz) [(mq, .inr (3, [.ref mq1, .ref mq2, .ref mq3, .ref mq4, .ref mq5, .int m_pieceCount, .int m_orderCount, .int res.2.2.1, .int res.2.2.2, .int m_upToDate])), (mq1, .inl (cI, 100, .inl m_gains)), (mq2, .inl (cI, 11264, .inl m_best)), (mq3, .inl (cI, 10, .inl m_chosen)), (mq4, .inl (cI, 10, .inl res.1)), (mq5, .inl (cI, 10, .inl res.2.1))]) (va_A [(mq, .inr (3, [.ref mq1, .ref mq2, .ref mq3, .ref mq4, .ref mq5, .int m_pieceCount, .int m_orderCount, .int m_pairs, .int m_worthSum, .int m_upToDate])), (mq1, .inl (cI, 100, .inl m_gains)), (mq2, .inl (cI, 11264, .inl m_best)), (mq3, .inl (cI, 10, .inl m_chosen)), (mq4, .inl (cI, 10, .inl m_pieceDuals)), (mq5, .inl (cI, 10, .inl m_orderDuals))] sz)) 0 0 (va_A [(mq, .inr (3, [.ref mq1, .ref mq2, .ref mq3, .ref mq4, .ref mq5, .int m_pieceCount, .int m_orderCount, .int m_pairs, .int m_worthSum, .int m_upToDate])), (mq1, .inl (cI, 100, .inl m_gains)), (mq2, .inl (cI, 11264, .inl m_best)), (mq3, .inl (cI, 10, .inl m_chosen)), (mq4, .inl (cI, 10, .inl m_pieceDuals)), (mq5, .inl (cI, 10, .inl m_orderDuals))] sz) := by
  unfold m_M_prove at hm
  refine Met.ofW (cc := b_M_prove) (maxL := 4) (ret := none) (by decide) rfl ?_
  intro p e s m args below meth c s₁ B hml hv
  obtain ⟨rfl, hsz, hP, hK, hD0, hN⟩ := hv
  have hx := B.exec
  have hb := B.bytes
  have hr := B.returns
  have hts := atoms_spec (ws := w_M_prove) B.pre
  have hown : s.vm.findClass R_M = some m.cls := findClass_of_methodNamed B.named
  have hlocks := B.notSynchronized
  subst hsz
  have hD := hD0.self (sz := s.heap.size)
  generalize hAe : va_A [(mq, .inr (3, [.ref mq1, .ref mq2, .ref mq3, .ref mq4, .ref mq5, .int m_pieceCount, .int m_orderCount, .int m_pairs, .int m_worthSum, .int m_upToDate])), (mq1, .inl (cI, 100, .inl m_gains)), (mq2, .inl (cI, 11264, .inl m_best)), (mq3, .inl (cI, 10, .inl m_chosen)), (mq4, .inl (cI, 10, .inl m_pieceDuals)), (mq5, .inl (cI, 10, .inl m_orderDuals))] s.heap.size = A at hD ⊢
  have hA : ∀ q : Nat, s.heap.size ≤ q → A q := fun q h => by rw [← hAe]; exact Or.inr h
  have hS : va_S A s.heap s.heap [] := va_S.rf
  have hk0 := hts (.fieldLink R_M 42 "SurplusMatch$Matching" "pieceCount" "I") (List.mem_cons_of_mem _ (w0 115 rfl))
  have hk1 : ∀ w ∈ w_M, w ∈ w_M_prove := fun w h => List.mem_cons_of_mem _ (i_M w h)
  have hk2 := hts (.fieldLink R_M 15 "SurplusMatch$Matching" "best" "[I") (List.mem_cons_of_mem _ (w0 111 rfl))
  have hk3 := hts (.fieldLink R_M 31 "SurplusMatch$Matching" "pairs" "I") (List.mem_cons_of_mem _ (w0 117 rfl))
  have hk4 := hts (.fieldLink R_M 35 "SurplusMatch$Matching" "worthSum" "I") (List.mem_cons_of_mem _ (w0 118 rfl))
  have hk5 := hts (.fieldLink R_M 45 "SurplusMatch$Matching" "orderCount" "I") (List.mem_cons_of_mem _ (w0 116 rfl))
  have hk6 := hts (.fieldLink R_M 24 "SurplusMatch$Matching" "orderDuals" "[I") (List.mem_cons_of_mem _ (w0 114 rfl))
  have hk7 := hts (.fieldLink R_M 18 "SurplusMatch$Matching" "chosen" "[I") (List.mem_cons_of_mem _ (w0 112 rfl))
  have hk8 := hts (.fieldLink R_M 21 "SurplusMatch$Matching" "pieceDuals" "[I") (List.mem_cons_of_mem _ (w0 113 rfl))
  have hk9 := hts (.fieldLink R_M 9 "SurplusMatch$Matching" "gains" "[I") (List.mem_cons_of_mem _ (w0 110 rfl))
  have hk10 := hts (.initialized R_S) (List.mem_cons_of_mem _ (w0 28 rfl))
  have hk11 := hts (.static y_S_pairIndex) (List.mem_cons_of_mem _ (w0 228 rfl))
  have hl := lv_entry ([.ref mq]) (n := 4) (Nat.le_of_ble_eq_true rfl)
  rw [lg_entry_eq]
  generalize (lg_sl ([.ref mq]) ++ List.replicate (4 - (lg_sl ([.ref mq])).length) Slot.unset).toArray = ls at hl ⊢
  have hl : lv_has ls 4 [(0, .ref mq)] := hl
  refine lv_aload_n hx hb d_M_prove_0 rfl (lv_at hl 0 rfl) ?_
  refine va_get (D := (dC, dI)) (ci := 3) (v := .int m_pieceCount) (C := R_M) (T := F_M) (N := 10) hx hb hts hk1 hown hK hP 0 rfl rfl 5 (by decide) hk0 (fun _ h9 => h9) rfl d_M_prove_1 ?_
  refine lv_sipush (v := 1024) hx hb d_M_prove_4 (by decide) ?_
  refine lv_imul hx hb d_M_prove_7 ?_
  refine lv_aload_n hx hb d_M_prove_8 rfl (lv_at hl 0 rfl) ?_
  obtain ⟨r1, hc, hm⟩ := bd hm
  try dsimp only at hm
  refine vp_callSi (W.runV (As := []) (rest := [.int (m_pieceCount * 1024)]) ⟨hx, hb, hml, hown, hts⟩ (c_M_allOrders l dC dI cI mq mq1 mq2 mq3 mq4 mq5 m_gains m_best m_chosen m_pieceDuals m_orderDuals m_pieceCount m_orderCount m_pairs m_worthSum m_upToDate  N r1 hc) (cwV 0 hts (gV (w0 253 rfl) (w0 254 rfl) (w0 7 rfl) (w0 32 rfl) (w0 255 rfl)) rfl rfl rfl q_M_allOrders ⟨Nat.le_of_ble_eq_true rfl, Nat.le_of_ble_eq_true rfl⟩) (ro_preV [0, 1, 2, 3, 4, 5] rfl hK hP hN 3 0 (R_M, F_M, 10) rfl rfl) rfl rfl hl.1 rfl (lv_room (Nat.le_of_ble_eq_true rfl)) d_M_prove_9 ⟨Nat.le_of_ble_eq_true rfl, Nat.le_of_ble_eq_true rfl⟩) (fun r9 hr9 => ?_)
  subst hr9
  refine lv_iadd hx hb d_M_prove_12 ?_
  refine lv_istore_n (lv' := [(1, .int ((m_pieceCount * 1024) + r1)), (0, .ref mq)]) hx hb d_M_prove_13 rfl hl (by decide) rfl (fun ls hl => ?_)
  refine lv_aload_n hx hb d_M_prove_14 rfl (lv_at hl 1 rfl) ?_
  refine lv_aload_n hx hb d_M_prove_15 rfl (lv_at hl 1 rfl) ?_
  refine va_get (D := (dC, dI)) (ci := 3) (v := .ref mq2) (C := R_M) (T := F_M) (N := 10) hx hb hts hk1 hown hK hP 0 rfl rfl 1 (by decide) hk2 (fun _ h9 => h9) rfl d_M_prove_16 ?_
  refine lv_iload_n hx hb d_M_prove_19 rfl (lv_at hl 0 rfl) ?_
  obtain ⟨h9, hm⟩ := gd hm
  refine va_iald hx hb hK hP 2 0 rfl rfl h9 d_M_prove_20 ?_
  refine lv_bipush (v := 16) hx hb d_M_prove_21 (by decide) ?_
  refine lv_irem hx hb d_M_prove_23 (by decide) ?_
  refine va_put (D := (dC, dI)) (ci := 3) (v := .int ((m_best ((m_pieceCount * 1024) + r1).toNatClampNeg) - (m_best ((m_pieceCount * 1024) + r1).toNatClampNeg) / 16 * 16)) (ty := .int) (C := R_M) (T := F_M) (N := 10) hx hb hts hk1 t_M t_M_ok n_M hown hK hP hD hS 0 rfl rfl 7 (by decide) hk3 (fun _ h9 => h9) rfl (by decide +kernel) rfl rfl (Nat.le_of_ble_eq_true rfl) d_M_prove_24 (fun H locs hP hD hS => ?_)
  have hP : va_P (dC, dI) classes [(mq, .inr (3, [.ref mq1, .ref mq2, .ref mq3, .ref mq4, .ref mq5, .int m_pieceCount, .int m_orderCount, .int ((m_best ((m_pieceCount * 1024) + r1).toNatClampNeg) - (m_best ((m_pieceCount * 1024) + r1).toNatClampNeg) / 16 * 16), .int m_worthSum, .int m_upToDate])), (mq1, .inl (cI, 100, .inl m_gains)), (mq2, .inl (cI, 11264, .inl m_best)), (mq3, .inl (cI, 10, .inl m_chosen)), (mq4, .inl (cI, 10, .inl m_pieceDuals)), (mq5, .inl (cI, 10, .inl m_orderDuals))] H := hP
  have hD : va_D A [(mq, .inr (3, [.ref mq1, .ref mq2, .ref mq3, .ref mq4, .ref mq5, .int m_pieceCount, .int m_orderCount, .int ((m_best ((m_pieceCount * 1024) + r1).toNatClampNeg) - (m_best ((m_pieceCount * 1024) + r1).toNatClampNeg) / 16 * 16), .int m_worthSum, .int m_upToDate])), (mq1, .inl (cI, 100, .inl m_gains)), (mq2, .inl (cI, 11264, .inl m_best)), (mq3, .inl (cI, 10, .inl m_chosen)), (mq4, .inl (cI, 10, .inl m_pieceDuals)), (mq5, .inl (cI, 10, .inl m_orderDuals))] := hD
  refine lv_aload_n hx hb d_M_prove_27 rfl (lv_at hl 1 rfl) ?_
  refine lv_aload_n hx hb d_M_prove_28 rfl (lv_at hl 1 rfl) ?_
  refine va_get (D := (dC, dI)) (ci := 3) (v := .ref mq2) (C := R_M) (T := F_M) (N := 10) hx hb hts hk1 hown hK hP 0 rfl rfl 1 (by decide) hk2 (fun _ h9 => h9) rfl d_M_prove_29 ?_
  refine lv_iload_n hx hb d_M_prove_32 rfl (lv_at hl 0 rfl) ?_
  obtain ⟨h9, hm⟩ := gd hm
  refine va_iald hx hb hK hP 2 0 rfl rfl h9 d_M_prove_33 ?_
  refine lv_bipush (v := 16) hx hb d_M_prove_34 (by decide) ?_
  refine lv_idiv hx hb d_M_prove_36 (by decide) ?_
  refine va_put (D := (dC, dI)) (ci := 3) (v := .int ((m_best ((m_pieceCount * 1024) + r1).toNatClampNeg) / 16)) (ty := .int) (C := R_M) (T := F_M) (N := 10) hx hb hts hk1 t_M t_M_ok n_M hown hK hP hD hS 0 rfl rfl 8 (by decide) hk4 (fun _ h9 => h9) rfl (by decide +kernel) rfl rfl (Nat.le_of_ble_eq_true rfl) d_M_prove_37 (fun H locs hP hD hS => ?_)
  have hP : va_P (dC, dI) classes [(mq, .inr (3, [.ref mq1, .ref mq2, .ref mq3, .ref mq4, .ref mq5, .int m_pieceCount, .int m_orderCount, .int ((m_best ((m_pieceCount * 1024) + r1).toNatClampNeg) - (m_best ((m_pieceCount * 1024) + r1).toNatClampNeg) / 16 * 16), .int ((m_best ((m_pieceCount * 1024) + r1).toNatClampNeg) / 16), .int m_upToDate])), (mq1, .inl (cI, 100, .inl m_gains)), (mq2, .inl (cI, 11264, .inl m_best)), (mq3, .inl (cI, 10, .inl m_chosen)), (mq4, .inl (cI, 10, .inl m_pieceDuals)), (mq5, .inl (cI, 10, .inl m_orderDuals))] H := hP
  have hD : va_D A [(mq, .inr (3, [.ref mq1, .ref mq2, .ref mq3, .ref mq4, .ref mq5, .int m_pieceCount, .int m_orderCount, .int ((m_best ((m_pieceCount * 1024) + r1).toNatClampNeg) - (m_best ((m_pieceCount * 1024) + r1).toNatClampNeg) / 16 * 16), .int ((m_best ((m_pieceCount * 1024) + r1).toNatClampNeg) / 16), .int m_upToDate])), (mq1, .inl (cI, 100, .inl m_gains)), (mq2, .inl (cI, 11264, .inl m_best)), (mq3, .inl (cI, 10, .inl m_chosen)), (mq4, .inl (cI, 10, .inl m_pieceDuals)), (mq5, .inl (cI, 10, .inl m_orderDuals))] := hD
  refine lv_iconst (v := 0) hx hb d_M_prove_40 (by decide) ?_
  refine lv_istore_n (lv' := [(2, .int 0), (1, .int ((m_pieceCount * 1024) + r1)), (0, .ref mq)]) hx hb d_M_prove_41 rfl hl (by decide) rfl (fun ls hl => ?_)
  have key42 : ∀ (K : Int32 → Int32 → (Nat → Int32) → (Nat → Int32) → Int32 → Int32 → Option ((Nat → Int32) × (Nat → Int32) × Int32 × Int32)) (_ : ∀ (y1a : Int32) (y2a : Int32) (m_pieceDualsa : Nat → Int32) (m_orderDualsa : Nat → Int32) (m_pairsa : Int32) (m_worthSuma : Int32) (H : Heap) (locs : List Loc) (ls : Array Slot), lv_has ls 4 [(0, .ref mq), (1, .int y1a), (2, .int y2a)] → va_P (dC, dI) classes [(mq, .inr (3, [.ref mq1, .ref mq2, .ref mq3, .ref mq4, .ref mq5, .int m_pieceCount, .int m_orderCount, .int m_pairsa, .int m_worthSuma, .int m_upToDate])), (mq1, .inl (cI, 100, .inl m_gains)), (mq2, .inl (cI, 11264, .inl m_best)), (mq3, .inl (cI, 10, .inl m_chosen)), (mq4, .inl (cI, 10, .inl m_pieceDualsa)), (mq5, .inl (cI, 10, .inl m_orderDualsa))] H → va_D A [(mq, .inr (3, [.ref mq1, .ref mq2, .ref mq3, .ref mq4, .ref mq5, .int m_pieceCount, .int m_orderCount, .int m_pairsa, .int m_worthSuma, .int m_upToDate])), (mq1, .inl (cI, 100, .inl m_gains)), (mq2, .inl (cI, 11264, .inl m_best)), (mq3, .inl (cI, 10, .inl m_chosen)), (mq4, .inl (cI, 10, .inl m_pieceDualsa)), (mq5, .inl (cI, 10, .inl m_orderDualsa))] → va_S A s.heap H locs → K y1a y2a m_pieceDualsa m_orderDualsa m_pairsa m_worthSuma = some res → W p l e (headSpec w_M_prove ({ frames := 1, cells := 0, slots := 0, locals := 21 } : Room)).room s m ([.ref mq] : List Value).toArray below meth c H locs 0 0 (MQ below (va_Qv (fun _ : Unit => True) (fun _ t => va_P (dC, dI) classes [(mq, .inr (3, [.ref mq1, .ref mq2, .ref mq3, .ref mq4, .ref mq5, .int m_pieceCount, .int m_orderCount, .int res.2.2.1, .int res.2.2.2, .int m_upToDate])), (mq1, .inl (cI, 100, .inl m_gains)), (mq2, .inl (cI, 11264, .inl m_best)), (mq3, .inl (cI, 10, .inl m_chosen)), (mq4, .inl (cI, 10, .inl res.1)), (mq5, .inl (cI, 10, .inl res.2.1))] t.heap ∧ va_K (dC, dI) classes [(cI, .int)] t ∧ va_D A [(mq, .inr (3, [.ref mq1, .ref mq2, .ref mq3, .ref mq4, .ref mq5, .int m_pieceCount, .int m_orderCount, .int res.2.2.1, .int res.2.2.2, .int m_upToDate])), (mq1, .inl (cI, 100, .inl m_gains)), (mq2, .inl (cI, 11264, .inl m_best)), (mq3, .inl (cI, 10, .inl m_chosen)), (mq4, .inl (cI, 10, .inl res.1)), (mq5, .inl (cI, 10, .inl res.2.1))]) A) ([.ref mq] : List Value).toArray s 0 0 A) (F0 m 80 ls [])) (n : Nat) (y1a : Int32) (y2a : Int32) (m_pieceDualsa : Nat → Int32) (m_orderDualsa : Nat → Int32) (m_pairsa : Int32) (m_worthSuma : Int32) (H : Heap) (locs : List Loc) (ls : Array Slot), lv_has ls 4 [(0, .ref mq), (1, .int y1a), (2, .int y2a)] → va_P (dC, dI) classes [(mq, .inr (3, [.ref mq1, .ref mq2, .ref mq3, .ref mq4, .ref mq5, .int m_pieceCount, .int m_orderCount, .int m_pairsa, .int m_worthSuma, .int m_upToDate])), (mq1, .inl (cI, 100, .inl m_gains)), (mq2, .inl (cI, 11264, .inl m_best)), (mq3, .inl (cI, 10, .inl m_chosen)), (mq4, .inl (cI, 10, .inl m_pieceDualsa)), (mq5, .inl (cI, 10, .inl m_orderDualsa))] H → va_D A [(mq, .inr (3, [.ref mq1, .ref mq2, .ref mq3, .ref mq4, .ref mq5, .int m_pieceCount, .int m_orderCount, .int m_pairsa, .int m_worthSuma, .int m_upToDate])), (mq1, .inl (cI, 100, .inl m_gains)), (mq2, .inl (cI, 11264, .inl m_best)), (mq3, .inl (cI, 10, .inl m_chosen)), (mq4, .inl (cI, 10, .inl m_pieceDualsa)), (mq5, .inl (cI, 10, .inl m_orderDualsa))] → va_S A s.heap H locs → L_M_prove_42 N m_best m_orderCount K n y1a y2a m_pieceDualsa m_orderDualsa m_pairsa m_worthSuma = some res → W p l e (headSpec w_M_prove ({ frames := 1, cells := 0, slots := 0, locals := 21 } : Room)).room s m ([.ref mq] : List Value).toArray below meth c H locs 0 0 (MQ below (va_Qv (fun _ : Unit => True) (fun _ t => va_P (dC, dI) classes [(mq, .inr (3, [.ref mq1, .ref mq2, .ref mq3, .ref mq4, .ref mq5, .int m_pieceCount, .int m_orderCount, .int res.2.2.1, .int res.2.2.2, .int m_upToDate])), (mq1, .inl (cI, 100, .inl m_gains)), (mq2, .inl (cI, 11264, .inl m_best)), (mq3, .inl (cI, 10, .inl m_chosen)), (mq4, .inl (cI, 10, .inl res.1)), (mq5, .inl (cI, 10, .inl res.2.1))] t.heap ∧ va_K (dC, dI) classes [(cI, .int)] t ∧ va_D A [(mq, .inr (3, [.ref mq1, .ref mq2, .ref mq3, .ref mq4, .ref mq5, .int m_pieceCount, .int m_orderCount, .int res.2.2.1, .int res.2.2.2, .int m_upToDate])), (mq1, .inl (cI, 100, .inl m_gains)), (mq2, .inl (cI, 11264, .inl m_best)), (mq3, .inl (cI, 10, .inl m_chosen)), (mq4, .inl (cI, 10, .inl res.1)), (mq5, .inl (cI, 10, .inl res.2.1))]) A) ([.ref mq] : List Value).toArray s 0 0 A) (F0 m 42 ls []) := by
    intro K hK42 n
    induction n with
    | zero => intro y1a y2a m_pieceDualsa m_orderDualsa m_pairsa m_worthSuma H locs ls hl hP hD hS hm; exact absurd hm (by simp [L_M_prove_42])
    | succ n ih42 =>
      intro y1a y2a m_pieceDualsa m_orderDualsa m_pairsa m_worthSuma H locs ls hl hP hD hS hm
      rw [L_M_prove_42] at hm
      refine lv_iload_n hx hb d_M_prove_42 rfl (lv_at hl 2 rfl) ?_
      refine lv_aload_n hx hb d_M_prove_43 rfl (lv_at hl 0 rfl) ?_
      refine va_get (D := (dC, dI)) (ci := 3) (v := .int m_orderCount) (C := R_M) (T := F_M) (N := 10) hx hb hts hk1 hown hK hP 0 rfl rfl 6 (by decide) hk5 (fun _ h9 => h9) rfl d_M_prove_44 ?_
      refine lv_icmp_ge (tgt := 80) hx hb d_M_prove_47 (by decide) (fun c9 => ?_) (fun c9 => ?_)
      · replace hm := if_t c9 hm
        have hl : lv_has ls 4 [(0, .ref mq), (1, .int y1a), (2, .int y2a)] := lv_sub hl [0, 1, 2] rfl
        exact hK42 y1a y2a m_pieceDualsa m_orderDualsa m_pairsa m_worthSuma _ _ ls hl hP hD hS hm
      · replace hm := if_f c9 hm
        refine lv_aload_n hx hb d_M_prove_50 rfl (lv_at hl 0 rfl) ?_
        refine va_get (D := (dC, dI)) (ci := 3) (v := .ref mq5) (C := R_M) (T := F_M) (N := 10) hx hb hts hk1 hown hK hP 0 rfl rfl 4 (by decide) hk6 (fun _ h9 => h9) rfl d_M_prove_51 ?_
        refine lv_iload_n hx hb d_M_prove_54 rfl (lv_at hl 2 rfl) ?_
        refine lv_aload_n hx hb d_M_prove_55 rfl (lv_at hl 0 rfl) ?_
        refine va_get (D := (dC, dI)) (ci := 3) (v := .int m_worthSuma) (C := R_M) (T := F_M) (N := 10) hx hb hts hk1 hown hK hP 0 rfl rfl 8 (by decide) hk4 (fun _ h9 => h9) rfl d_M_prove_56 ?_
        refine lv_aload_n hx hb d_M_prove_59 rfl (lv_at hl 0 rfl) ?_
        refine va_get (D := (dC, dI)) (ci := 3) (v := .ref mq2) (C := R_M) (T := F_M) (N := 10) hx hb hts hk1 hown hK hP 0 rfl rfl 1 (by decide) hk2 (fun _ h9 => h9) rfl d_M_prove_60 ?_
        refine lv_iload_n hx hb d_M_prove_63 rfl (lv_at hl 1 rfl) ?_
        refine lv_iconst (v := 1) hx hb d_M_prove_64 (by decide) ?_
        refine lv_iload_n hx hb d_M_prove_65 rfl (lv_at hl 2 rfl) ?_
        refine lv_ishl hx hb d_M_prove_66 ?_
        refine lv_isub hx hb d_M_prove_67 ?_
        obtain ⟨h9, hm⟩ := gd hm
        refine va_iald hx hb hK hP 2 0 rfl rfl h9 d_M_prove_68 ?_
        refine lv_bipush (v := 16) hx hb d_M_prove_69 (by decide) ?_
        refine lv_idiv hx hb d_M_prove_71 (by decide) ?_
        refine lv_isub hx hb d_M_prove_72 ?_
        obtain ⟨h9, hm⟩ := gd hm
        refine va_iast hx hb hK hP hD hS 5 0 rfl rfl h9 d_M_prove_73 (fun H locs hP hD hS => ?_)
        have hP : va_P (dC, dI) classes [(mq, .inr (3, [.ref mq1, .ref mq2, .ref mq3, .ref mq4, .ref mq5, .int m_pieceCount, .int m_orderCount, .int m_pairsa, .int m_worthSuma, .int m_upToDate])), (mq1, .inl (cI, 100, .inl m_gains)), (mq2, .inl (cI, 11264, .inl m_best)), (mq3, .inl (cI, 10, .inl m_chosen)), (mq4, .inl (cI, 10, .inl m_pieceDualsa)), (mq5, .inl (cI, 10, .inl (upd m_orderDualsa y2a.toNatClampNeg (m_worthSuma - ((m_best (y1a - ((1 : Int32) <<< (y2a &&& 31))).toNatClampNeg) / 16)))))] H := hP
        have hD : va_D A [(mq, .inr (3, [.ref mq1, .ref mq2, .ref mq3, .ref mq4, .ref mq5, .int m_pieceCount, .int m_orderCount, .int m_pairsa, .int m_worthSuma, .int m_upToDate])), (mq1, .inl (cI, 100, .inl m_gains)), (mq2, .inl (cI, 11264, .inl m_best)), (mq3, .inl (cI, 10, .inl m_chosen)), (mq4, .inl (cI, 10, .inl m_pieceDualsa)), (mq5, .inl (cI, 10, .inl (upd m_orderDualsa y2a.toNatClampNeg (m_worthSuma - ((m_best (y1a - ((1 : Int32) <<< (y2a &&& 31))).toNatClampNeg) / 16)))))] := hD
        refine lv_iinc (v := (y2a + 1)) (lv' := [(2, .int (y2a + 1)), (0, .ref mq), (1, .int y1a)]) hx hb d_M_prove_74 hl (k := 2) rfl rfl (by decide) rfl (fun ls hl => ?_)
        refine lv_goto (tgt := 42) hx hb d_M_prove_77 (by decide) ?_
        have hl : lv_has ls 4 [(0, .ref mq), (1, .int y1a), (2, .int (y2a + 1))] := lv_sub hl [1, 2, 0] rfl
        exact ih42 y1a (y2a + 1) m_pieceDualsa (upd m_orderDualsa y2a.toNatClampNeg (m_worthSuma - ((m_best (y1a - ((1 : Int32) <<< (y2a &&& 31))).toNatClampNeg) / 16))) m_pairsa m_worthSuma _ _ ls hl hP hD hS hm
  have hl : lv_has ls 4 [(0, .ref mq), (1, .int ((m_pieceCount * 1024) + r1)), (2, .int 0)] := lv_sub hl [2, 1, 0] rfl
  refine key42 _ (fun y1a y2a m_pieceDualsa m_orderDualsa m_pairsa m_worthSuma H locs ls hl hP hD hS hm => ?_) N ((m_pieceCount * 1024) + r1) 0 m_pieceDuals m_orderDuals ((m_best ((m_pieceCount * 1024) + r1).toNatClampNeg) - (m_best ((m_pieceCount * 1024) + r1).toNatClampNeg) / 16 * 16) ((m_best ((m_pieceCount * 1024) + r1).toNatClampNeg) / 16) _ _ ls hl hP hD hS hm
  try dsimp only at hm
  refine lv_iconst (v := 0) hx hb d_M_prove_80 (by decide) ?_
  refine lv_istore_n (lv' := [(2, .int 0), (0, .ref mq), (1, .int y1a)]) hx hb d_M_prove_81 rfl hl (by decide) rfl (fun ls hl => ?_)
  have key82 : ∀ (K : Int32 → Int32 → (Nat → Int32) → (Nat → Int32) → Int32 → Int32 → Option ((Nat → Int32) × (Nat → Int32) × Int32 × Int32)) (_ : ∀ (y1b : Int32) (y2b : Int32) (m_pieceDualsb : Nat → Int32) (m_orderDualsb : Nat → Int32) (m_pairsb : Int32) (m_worthSumb : Int32) (H : Heap) (locs : List Loc) (ls : Array Slot), lv_has ls 4 [(0, .ref mq), (1, .int y1b), (2, .int y2b)] → va_P (dC, dI) classes [(mq, .inr (3, [.ref mq1, .ref mq2, .ref mq3, .ref mq4, .ref mq5, .int m_pieceCount, .int m_orderCount, .int m_pairsb, .int m_worthSumb, .int m_upToDate])), (mq1, .inl (cI, 100, .inl m_gains)), (mq2, .inl (cI, 11264, .inl m_best)), (mq3, .inl (cI, 10, .inl m_chosen)), (mq4, .inl (cI, 10, .inl m_pieceDualsb)), (mq5, .inl (cI, 10, .inl m_orderDualsb))] H → va_D A [(mq, .inr (3, [.ref mq1, .ref mq2, .ref mq3, .ref mq4, .ref mq5, .int m_pieceCount, .int m_orderCount, .int m_pairsb, .int m_worthSumb, .int m_upToDate])), (mq1, .inl (cI, 100, .inl m_gains)), (mq2, .inl (cI, 11264, .inl m_best)), (mq3, .inl (cI, 10, .inl m_chosen)), (mq4, .inl (cI, 10, .inl m_pieceDualsb)), (mq5, .inl (cI, 10, .inl m_orderDualsb))] → va_S A s.heap H locs → K y1b y2b m_pieceDualsb m_orderDualsb m_pairsb m_worthSumb = some res → W p l e (headSpec w_M_prove ({ frames := 1, cells := 0, slots := 0, locals := 21 } : Room)).room s m ([.ref mq] : List Value).toArray below meth c H locs 0 0 (MQ below (va_Qv (fun _ : Unit => True) (fun _ t => va_P (dC, dI) classes [(mq, .inr (3, [.ref mq1, .ref mq2, .ref mq3, .ref mq4, .ref mq5, .int m_pieceCount, .int m_orderCount, .int res.2.2.1, .int res.2.2.2, .int m_upToDate])), (mq1, .inl (cI, 100, .inl m_gains)), (mq2, .inl (cI, 11264, .inl m_best)), (mq3, .inl (cI, 10, .inl m_chosen)), (mq4, .inl (cI, 10, .inl res.1)), (mq5, .inl (cI, 10, .inl res.2.1))] t.heap ∧ va_K (dC, dI) classes [(cI, .int)] t ∧ va_D A [(mq, .inr (3, [.ref mq1, .ref mq2, .ref mq3, .ref mq4, .ref mq5, .int m_pieceCount, .int m_orderCount, .int res.2.2.1, .int res.2.2.2, .int m_upToDate])), (mq1, .inl (cI, 100, .inl m_gains)), (mq2, .inl (cI, 11264, .inl m_best)), (mq3, .inl (cI, 10, .inl m_chosen)), (mq4, .inl (cI, 10, .inl res.1)), (mq5, .inl (cI, 10, .inl res.2.1))]) A) ([.ref mq] : List Value).toArray s 0 0 A) (F0 m 138 ls [])) (n : Nat) (y1b : Int32) (y2b : Int32) (m_pieceDualsb : Nat → Int32) (m_orderDualsb : Nat → Int32) (m_pairsb : Int32) (m_worthSumb : Int32) (H : Heap) (locs : List Loc) (ls : Array Slot), lv_has ls 4 [(0, .ref mq), (1, .int y1b), (2, .int y2b)] → va_P (dC, dI) classes [(mq, .inr (3, [.ref mq1, .ref mq2, .ref mq3, .ref mq4, .ref mq5, .int m_pieceCount, .int m_orderCount, .int m_pairsb, .int m_worthSumb, .int m_upToDate])), (mq1, .inl (cI, 100, .inl m_gains)), (mq2, .inl (cI, 11264, .inl m_best)), (mq3, .inl (cI, 10, .inl m_chosen)), (mq4, .inl (cI, 10, .inl m_pieceDualsb)), (mq5, .inl (cI, 10, .inl m_orderDualsb))] H → va_D A [(mq, .inr (3, [.ref mq1, .ref mq2, .ref mq3, .ref mq4, .ref mq5, .int m_pieceCount, .int m_orderCount, .int m_pairsb, .int m_worthSumb, .int m_upToDate])), (mq1, .inl (cI, 100, .inl m_gains)), (mq2, .inl (cI, 11264, .inl m_best)), (mq3, .inl (cI, 10, .inl m_chosen)), (mq4, .inl (cI, 10, .inl m_pieceDualsb)), (mq5, .inl (cI, 10, .inl m_orderDualsb))] → va_S A s.heap H locs → L_M_prove_82 N m_gains m_chosen m_pieceCount K n y1b y2b m_pieceDualsb m_orderDualsb m_pairsb m_worthSumb = some res → W p l e (headSpec w_M_prove ({ frames := 1, cells := 0, slots := 0, locals := 21 } : Room)).room s m ([.ref mq] : List Value).toArray below meth c H locs 0 0 (MQ below (va_Qv (fun _ : Unit => True) (fun _ t => va_P (dC, dI) classes [(mq, .inr (3, [.ref mq1, .ref mq2, .ref mq3, .ref mq4, .ref mq5, .int m_pieceCount, .int m_orderCount, .int res.2.2.1, .int res.2.2.2, .int m_upToDate])), (mq1, .inl (cI, 100, .inl m_gains)), (mq2, .inl (cI, 11264, .inl m_best)), (mq3, .inl (cI, 10, .inl m_chosen)), (mq4, .inl (cI, 10, .inl res.1)), (mq5, .inl (cI, 10, .inl res.2.1))] t.heap ∧ va_K (dC, dI) classes [(cI, .int)] t ∧ va_D A [(mq, .inr (3, [.ref mq1, .ref mq2, .ref mq3, .ref mq4, .ref mq5, .int m_pieceCount, .int m_orderCount, .int res.2.2.1, .int res.2.2.2, .int m_upToDate])), (mq1, .inl (cI, 100, .inl m_gains)), (mq2, .inl (cI, 11264, .inl m_best)), (mq3, .inl (cI, 10, .inl m_chosen)), (mq4, .inl (cI, 10, .inl res.1)), (mq5, .inl (cI, 10, .inl res.2.1))]) A) ([.ref mq] : List Value).toArray s 0 0 A) (F0 m 82 ls []) := by
    intro K hK82 n
    induction n with
    | zero => intro y1b y2b m_pieceDualsb m_orderDualsb m_pairsb m_worthSumb H locs ls hl hP hD hS hm; exact absurd hm (by simp [L_M_prove_82])
    | succ n ih82 =>
      intro y1b y2b m_pieceDualsb m_orderDualsb m_pairsb m_worthSumb H locs ls hl hP hD hS hm
      rw [L_M_prove_82] at hm
      refine lv_iload_n hx hb d_M_prove_82 rfl (lv_at hl 2 rfl) ?_
      refine lv_aload_n hx hb d_M_prove_83 rfl (lv_at hl 0 rfl) ?_
      refine va_get (D := (dC, dI)) (ci := 3) (v := .int m_pieceCount) (C := R_M) (T := F_M) (N := 10) hx hb hts hk1 hown hK hP 0 rfl rfl 5 (by decide) hk0 (fun _ h9 => h9) rfl d_M_prove_84 ?_
      refine lv_icmp_ge (tgt := 138) hx hb d_M_prove_87 (by decide) (fun c9 => ?_) (fun c9 => ?_)
      · replace hm := if_t c9 hm
        have hl : lv_has ls 4 [(0, .ref mq), (1, .int y1b), (2, .int y2b)] := lv_sub hl [0, 1, 2] rfl
        exact hK82 y1b y2b m_pieceDualsb m_orderDualsb m_pairsb m_worthSumb _ _ ls hl hP hD hS hm
      · replace hm := if_f c9 hm
        refine lv_aload_n hx hb d_M_prove_90 rfl (lv_at hl 0 rfl) ?_
        refine va_get (D := (dC, dI)) (ci := 3) (v := .ref mq3) (C := R_M) (T := F_M) (N := 10) hx hb hts hk1 hown hK hP 0 rfl rfl 2 (by decide) hk7 (fun _ h9 => h9) rfl d_M_prove_91 ?_
        refine lv_iload_n hx hb d_M_prove_94 rfl (lv_at hl 2 rfl) ?_
        obtain ⟨h9, hm⟩ := gd hm
        refine va_iald hx hb hK hP 3 0 rfl rfl h9 d_M_prove_95 ?_
        refine lv_istore_n (lv' := [(3, .int (m_chosen y2b.toNatClampNeg)), (0, .ref mq), (1, .int y1b), (2, .int y2b)]) hx hb d_M_prove_96 rfl hl (by decide) rfl (fun ls hl => ?_)
        refine lv_aload_n hx hb d_M_prove_97 rfl (lv_at hl 1 rfl) ?_
        refine va_get (D := (dC, dI)) (ci := 3) (v := .ref mq4) (C := R_M) (T := F_M) (N := 10) hx hb hts hk1 hown hK hP 0 rfl rfl 3 (by decide) hk8 (fun _ h9 => h9) rfl d_M_prove_98 ?_
        refine lv_iload_n hx hb d_M_prove_101 rfl (lv_at hl 3 rfl) ?_
        refine lv_iload_n hx hb d_M_prove_102 rfl (lv_at hl 0 rfl) ?_
        refine lv_iconst (v := (-1)) hx hb d_M_prove_103 (by decide) ?_
        refine lv_icmp_ne (tgt := 111) hx hb d_M_prove_104 (by decide) (fun c9 => ?_) (fun c9 => ?_)
        · replace hm := if_f c9 hm
          refine lv_aload_n hx hb d_M_prove_111 rfl (lv_at hl 1 rfl) ?_
          refine va_get (D := (dC, dI)) (ci := 3) (v := .ref mq1) (C := R_M) (T := F_M) (N := 10) hx hb hts hk1 hown hK hP 0 rfl rfl 0 (by decide) hk9 (fun _ h9 => h9) rfl d_M_prove_112 ?_
          refine lv_iload_n hx hb d_M_prove_115 rfl (lv_at hl 3 rfl) ?_
          refine lv_iload_n hx hb d_M_prove_116 rfl (lv_at hl 0 rfl) ?_
          obtain ⟨r2, hc, hm⟩ := bd hm
          try dsimp only at hm
          refine vp_callSi (va_Run.run (va_runSN (As := [.int y2b, .int (m_chosen y2b.toNatClampNeg)]) (rest := [.ref mq1, .int y2b, .ref mq4]) ⟨hx, hb, hml, hown, hts⟩ (c_S_pairIndex l dC dI cI y2b (m_chosen y2b.toNatClampNeg) N r2 hc) ⟨va_cnB 2 hts (gN (w0 229 rfl)) rfl rfl rfl hN hk10 q_S_pairIndex.2 ⟨Nat.le_of_ble_eq_true rfl, Nat.le_of_ble_eq_true rfl⟩, hk11, trivial⟩ ro_pre0 rfl rfl hl.1 rfl (lv_room (Nat.le_of_ble_eq_true rfl)) d_M_prove_117 ⟨Nat.le_of_ble_eq_true rfl, Nat.le_of_ble_eq_true rfl⟩)) (fun r9 hr9 => ?_)
          subst hr9
          obtain ⟨h9, hm⟩ := gd hm
          refine va_iald hx hb hK hP 1 0 rfl rfl h9 d_M_prove_120 ?_
          refine lv_bipush (v := 16) hx hb d_M_prove_121 (by decide) ?_
          refine lv_idiv hx hb d_M_prove_123 (by decide) ?_
          refine lv_aload_n hx hb d_M_prove_124 rfl (lv_at hl 1 rfl) ?_
          refine va_get (D := (dC, dI)) (ci := 3) (v := .ref mq5) (C := R_M) (T := F_M) (N := 10) hx hb hts hk1 hown hK hP 0 rfl rfl 4 (by decide) hk6 (fun _ h9 => h9) rfl d_M_prove_125 ?_
          refine lv_iload_n hx hb d_M_prove_128 rfl (lv_at hl 0 rfl) ?_
          obtain ⟨h9, hm⟩ := gd hm
          refine va_iald hx hb hK hP 5 0 rfl rfl h9 d_M_prove_129 ?_
          refine lv_isub hx hb d_M_prove_130 ?_
          obtain ⟨h9, hm⟩ := gd hm
          refine va_iast hx hb hK hP hD hS 4 0 rfl rfl h9 d_M_prove_131 (fun H locs hP hD hS => ?_)
          have hP : va_P (dC, dI) classes [(mq, .inr (3, [.ref mq1, .ref mq2, .ref mq3, .ref mq4, .ref mq5, .int m_pieceCount, .int m_orderCount, .int m_pairsb, .int m_worthSumb, .int m_upToDate])), (mq1, .inl (cI, 100, .inl m_gains)), (mq2, .inl (cI, 11264, .inl m_best)), (mq3, .inl (cI, 10, .inl m_chosen)), (mq4, .inl (cI, 10, .inl (upd m_pieceDualsb y2b.toNatClampNeg (((m_gains r2.toNatClampNeg) / 16) - (m_orderDualsb (m_chosen y2b.toNatClampNeg).toNatClampNeg))))), (mq5, .inl (cI, 10, .inl m_orderDualsb))] H := hP
          have hD : va_D A [(mq, .inr (3, [.ref mq1, .ref mq2, .ref mq3, .ref mq4, .ref mq5, .int m_pieceCount, .int m_orderCount, .int m_pairsb, .int m_worthSumb, .int m_upToDate])), (mq1, .inl (cI, 100, .inl m_gains)), (mq2, .inl (cI, 11264, .inl m_best)), (mq3, .inl (cI, 10, .inl m_chosen)), (mq4, .inl (cI, 10, .inl (upd m_pieceDualsb y2b.toNatClampNeg (((m_gains r2.toNatClampNeg) / 16) - (m_orderDualsb (m_chosen y2b.toNatClampNeg).toNatClampNeg))))), (mq5, .inl (cI, 10, .inl m_orderDualsb))] := hD
          refine lv_iinc (v := (y2b + 1)) (lv' := [(2, .int (y2b + 1)), (3, .int (m_chosen y2b.toNatClampNeg)), (0, .ref mq), (1, .int y1b)]) hx hb d_M_prove_132 hl (k := 3) rfl rfl (by decide) rfl (fun ls hl => ?_)
          refine lv_goto (tgt := 82) hx hb d_M_prove_135 (by decide) ?_
          have hl : lv_has ls 4 [(0, .ref mq), (1, .int y1b), (2, .int (y2b + 1))] := lv_sub hl [2, 3, 0] rfl
          exact ih82 y1b (y2b + 1) (upd m_pieceDualsb y2b.toNatClampNeg (((m_gains r2.toNatClampNeg) / 16) - (m_orderDualsb (m_chosen y2b.toNatClampNeg).toNatClampNeg))) m_orderDualsb m_pairsb m_worthSumb _ _ ls hl hP hD hS hm
        · replace hm := if_t c9 hm
          refine lv_iconst (v := 0) hx hb d_M_prove_107 (by decide) ?_
          refine lv_goto (tgt := 131) hx hb d_M_prove_108 (by decide) ?_
          obtain ⟨h9, hm⟩ := gd hm
          refine va_iast hx hb hK hP hD hS 4 0 rfl rfl h9 d_M_prove_131 (fun H locs hP hD hS => ?_)
          have hP : va_P (dC, dI) classes [(mq, .inr (3, [.ref mq1, .ref mq2, .ref mq3, .ref mq4, .ref mq5, .int m_pieceCount, .int m_orderCount, .int m_pairsb, .int m_worthSumb, .int m_upToDate])), (mq1, .inl (cI, 100, .inl m_gains)), (mq2, .inl (cI, 11264, .inl m_best)), (mq3, .inl (cI, 10, .inl m_chosen)), (mq4, .inl (cI, 10, .inl (upd m_pieceDualsb y2b.toNatClampNeg 0))), (mq5, .inl (cI, 10, .inl m_orderDualsb))] H := hP
          have hD : va_D A [(mq, .inr (3, [.ref mq1, .ref mq2, .ref mq3, .ref mq4, .ref mq5, .int m_pieceCount, .int m_orderCount, .int m_pairsb, .int m_worthSumb, .int m_upToDate])), (mq1, .inl (cI, 100, .inl m_gains)), (mq2, .inl (cI, 11264, .inl m_best)), (mq3, .inl (cI, 10, .inl m_chosen)), (mq4, .inl (cI, 10, .inl (upd m_pieceDualsb y2b.toNatClampNeg 0))), (mq5, .inl (cI, 10, .inl m_orderDualsb))] := hD
          refine lv_iinc (v := (y2b + 1)) (lv' := [(2, .int (y2b + 1)), (3, .int (m_chosen y2b.toNatClampNeg)), (0, .ref mq), (1, .int y1b)]) hx hb d_M_prove_132 hl (k := 3) rfl rfl (by decide) rfl (fun ls hl => ?_)
          refine lv_goto (tgt := 82) hx hb d_M_prove_135 (by decide) ?_
          have hl : lv_has ls 4 [(0, .ref mq), (1, .int y1b), (2, .int (y2b + 1))] := lv_sub hl [2, 3, 0] rfl
          exact ih82 y1b (y2b + 1) (upd m_pieceDualsb y2b.toNatClampNeg 0) m_orderDualsb m_pairsb m_worthSumb _ _ ls hl hP hD hS hm
  have hl : lv_has ls 4 [(0, .ref mq), (1, .int y1a), (2, .int 0)] := lv_sub hl [1, 2, 0] rfl
  refine key82 _ (fun y1b y2b m_pieceDualsb m_orderDualsb m_pairsb m_worthSumb H locs ls hl hP hD hS hm => ?_) N y1a 0 m_pieceDualsa m_orderDualsa m_pairsa m_worthSuma _ _ ls hl hP hD hS hm
  try dsimp only at hm
  cases hm
  refine W.widen (k := 0) (n := 0) (Nat.le_of_ble_eq_true rfl) (Nat.le_of_ble_eq_true rfl) ?_
  exact W.vret hx hb hr (fun t ht hW => ⟨⟨(), rfl, trivial, by rw [ht]; exact hP, va_K.moved hW.alike hK, hD⟩, hS.F ht⟩) hS.2.2 d_M_prove_138

def w_M_solve : List Cond := .code y_M_solve b_M_solve 3 none :: W0
theorem q_M_solve : y_M_solve.cls = R_M ∧ y_M_solve.cls ≠ "java/lang/invoke/MethodHandle" ∧ y_M_solve.cls ≠ "java/lang/invoke/VarHandle" ∧ (parseMethodDescriptor y_M_solve.desc).map (fun d => d.parameters.length) = some 2 := by decide +kernel
def m_M_solve (N : Nat) (m_gains : Nat → Int32) (m_best : Nat → Int32) (m_chosen : Nat → Int32) (m_pieceDuals : Nat → Int32) (m_orderDuals : Nat → Int32) (x1 : Int32) (x2 : Int32) : Option ((Nat → Int32) × (Nat → Int32) × (Nat → Int32) × (Nat → Int32) × Int32 × Int32 × Int32 × Int32 × Int32) :=
  ((m_M_fillBest N m_gains m_best x1 x2).bind fun u2 =>
  ((m_M_choose N m_gains u2 m_chosen x1 x2).bind fun u4 =>
    ((m_M_prove N m_gains u2 u4 m_pieceDuals m_orderDuals x1 x2).bind fun (u6, u7, u8, u9) =>
      some (u2, u4, u6, u7, x1, x2, u8, u9, 1))))
set_option maxHeartbeats 4000000 in
set_option maxRecDepth 100000 in
theorem c_M_solve (l : Launch) (dC : Nat → ClassId) (dI : Nat → Nat → Nat) (cI : ClassId) (mq mq1 mq2 mq3 mq4 mq5 : Nat) (sz : Nat) (m_gains : Nat → Int32) (m_best : Nat → Int32) (m_chosen : Nat → Int32) (m_pieceDuals : Nat → Int32) (m_orderDuals : Nat → Int32) (m_pieceCount : Int32) (m_orderCount : Int32) (m_pairs : Int32) (m_worthSum : Int32) (m_upToDate : Int32) (x1 : Int32) (x2 : Int32) (N : Nat) (res : (Nat → Int32) × (Nat → Int32) × (Nat → Int32) × (Nat → Int32) × Int32 × Int32 × Int32 × Int32 × Int32) (hm : m_M_solve N m_gains m_best m_chosen m_pieceDuals m_orderDuals x1 x2 = some res) : Met l y_M_solve w_M_solve ({ frames := 3, cells := 0, slots := 0, locals := 71 } : Room) (va_Pc [.ref mq, .int x1, .int x2] (fun U => U.heap.size = sz ∧ va_P (dC, dI) classes [(mq, .inr (3, [.ref mq1, .ref mq2, .ref mq3, .ref mq4, .ref mq5, .int m_pieceCount, .int m_orderCount, .int m_pairs, .int m_worthSum, .int m_upToDate])), (mq1, .inl (cI, 100, .inl m_gains)), (mq2, .inl (cI, 11264, .inl m_best)), (mq3, .inl (cI, 10, .inl m_chosen)), (mq4, .inl (cI, 10, .inl m_pieceDuals)), (mq5, .inl (cI, 10, .inl m_orderDuals))] U.heap ∧ va_K (dC, dI) classes [(cI, .int)] U ∧ va_D (fun _ => True) [(mq, .inr (3, [.ref mq1, .ref mq2, .ref mq3, .ref mq4, .ref mq5, .int m_pieceCount, .int m_orderCount, .int m_pairs, .int m_worthSum, .int m_upToDate])), (mq1, .inl (cI, 100, .inl m_gains)), (mq2, .inl (cI, 11264, .inl m_best)), (mq3, .inl (cI, 10, .inl m_chosen)), (mq4, .inl (cI, 10, .inl m_pieceDuals)), (mq5, .inl (cI, 10, .inl m_orderDuals))] ∧ nw U)) (va_Qv (fun _ : Unit => True) (fun _ t => va_P (dC, dI) classes [(mq, .inr (3, [.ref mq1, .ref mq2, .ref mq3, .ref mq4, .ref mq5, .int res.2.2.2.2.1, .int res.2.2.2.2.2.1, .int res.2.2.2.2.2.2.1, .int res.2.2.2.2.2.2.2.1, .int res.2.2.2.2.2.2.2.2])), (mq1, .inl (cI, 100, .inl m_gains)), (mq2, .inl (cI, 11264, .inl res.1)), (mq3, .inl (cI, 10, .inl res.2.1)), (mq4, .inl (cI, 10, .inl res.2.2.1)), (mq5, .inl (cI, 10, .inl res.2.2.2.1))] t.heap ∧ va_K (dC, dI) classes [(cI, .int)] t ∧ va_D (va_A [(mq, .inr (3, [.ref mq1, .ref mq2, .ref mq3, .ref mq4, .ref mq5, .int m_pieceCount, .int m_orderCount, .int m_pairs, .int m_worthSum, .int m_upToDate])), (mq1, .inl (cI, 100, .inl m_gains)), (mq2, .inl (cI, 11264, .inl m_best)), (mq3, .inl (cI, 10, .inl m_chosen)), (mq4, .inl (cI, 10, .inl m_pieceDuals)), (mq5, .inl (cI, 10, .inl m_orderDuals))] sz) [(mq, .inr (3, [.ref mq1, .ref mq2, .ref mq3, .ref mq4, .ref mq5, .int res.2.2.2.2.1, .int res.2.2.2.2.2.1, .int res.2.2.2.2.2.2.1, .int res.2.2.2.2.2.2.2.1, .int res.2.2.2.2.2.2.2.2])), (mq1, .inl (cI, 100, .inl m_gains)), (mq2, .inl (cI, 11264, .inl res.1)), (mq3, .inl (cI, 10, .inl res.2.1)), (mq4, .inl (cI, 10, .inl res.2.2.1)), (mq5, .inl (cI, 10, .inl res.2.2.2.1))]) (va_A [(mq, .inr (3, [.ref mq1, .ref mq2, .ref mq3, .ref mq4, .ref mq5, .int m_pieceCount, .int m_orderCount, .int m_pairs, .int m_worthSum, .int m_upToDate])), (mq1, .inl (cI, 100, .inl m_gains)), (mq2, .inl (cI, 11264, .inl m_best)), (mq3, .inl (cI, 10, .inl m_chosen)), (mq4, .inl (cI, 10, .inl m_pieceDuals)), (mq5, .inl (cI, 10, .inl m_orderDuals))] sz)) 0 0 (va_A [(mq, .inr (3, [.ref mq1, .ref mq2, .ref mq3, .ref mq4, .ref mq5, .int m_pieceCount, .int m_orderCount, .int m_pairs, .int m_worthSum, .int m_upToDate])), (mq1, .inl (cI, 100, .inl m_gains)), (mq2, .inl (cI, 11264, .inl m_best)), (mq3, .inl (cI, 10, .inl m_chosen)), (mq4, .inl (cI, 10, .inl m_pieceDuals)), (mq5, .inl (cI, 10, .inl m_orderDuals))] sz) := by
  unfold m_M_solve at hm
  refine Met.ofW (cc := b_M_solve) (maxL := 3) (ret := none) (by decide) rfl ?_
  intro p e s m args below meth c s₁ B hml hv
  obtain ⟨rfl, hsz, hP, hK, hD0, hN⟩ := hv
  have hx := B.exec
  have hb := B.bytes
  have hr := B.returns
  have hts := atoms_spec (ws := w_M_solve) B.pre
  have hown : s.vm.findClass R_M = some m.cls := findClass_of_methodNamed B.named
  have hlocks := B.notSynchronized
  subst hsz
  have hD := hD0.self (sz := s.heap.size)
  generalize hAe : va_A [(mq, .inr (3, [.ref mq1, .ref mq2, .ref mq3, .ref mq4, .ref mq5, .int m_pieceCount, .int m_orderCount, .int m_pairs, .int m_worthSum, .int m_upToDate])), (mq1, .inl (cI, 100, .inl m_gains)), (mq2, .inl (cI, 11264, .inl m_best)), (mq3, .inl (cI, 10, .inl m_chosen)), (mq4, .inl (cI, 10, .inl m_pieceDuals)), (mq5, .inl (cI, 10, .inl m_orderDuals))] s.heap.size = A at hD ⊢
  have hA : ∀ q : Nat, s.heap.size ≤ q → A q := fun q h => by rw [← hAe]; exact Or.inr h
  have hS : va_S A s.heap s.heap [] := va_S.rf
  have hk0 := hts (.fieldLink R_M 42 "SurplusMatch$Matching" "pieceCount" "I") (List.mem_cons_of_mem _ (w0 115 rfl))
  have hk1 : ∀ w ∈ w_M, w ∈ w_M_solve := fun w h => List.mem_cons_of_mem _ (i_M w h)
  have hk2 := hts (.fieldLink R_M 45 "SurplusMatch$Matching" "orderCount" "I") (List.mem_cons_of_mem _ (w0 116 rfl))
  have hk3 := hts (.fieldLink R_M 27 "SurplusMatch$Matching" "upToDate" "Z") (List.mem_cons_of_mem _ (w0 119 rfl))
  have hl := lv_entry ([.ref mq, .int x1, .int x2]) (n := 3) (Nat.le_of_ble_eq_true rfl)
  rw [lg_entry_eq]
  generalize (lg_sl ([.ref mq, .int x1, .int x2]) ++ List.replicate (3 - (lg_sl ([.ref mq, .int x1, .int x2])).length) Slot.unset).toArray = ls at hl ⊢
  have hl : lv_has ls 3 [(0, .ref mq), (1, .int x1), (2, .int x2)] := hl
  refine lv_aload_n hx hb d_M_solve_0 rfl (lv_at hl 0 rfl) ?_
  refine lv_iload_n hx hb d_M_solve_1 rfl (lv_at hl 1 rfl) ?_
  refine va_put (D := (dC, dI)) (ci := 3) (v := .int x1) (ty := .int) (C := R_M) (T := F_M) (N := 10) hx hb hts hk1 t_M t_M_ok n_M hown hK hP hD hS 0 rfl rfl 5 (by decide) hk0 (fun _ h9 => h9) rfl (by decide +kernel) rfl rfl (Nat.le_of_ble_eq_true rfl) d_M_solve_2 (fun H locs hP hD hS => ?_)
  have hP : va_P (dC, dI) classes [(mq, .inr (3, [.ref mq1, .ref mq2, .ref mq3, .ref mq4, .ref mq5, .int x1, .int m_orderCount, .int m_pairs, .int m_worthSum, .int m_upToDate])), (mq1, .inl (cI, 100, .inl m_gains)), (mq2, .inl (cI, 11264, .inl m_best)), (mq3, .inl (cI, 10, .inl m_chosen)), (mq4, .inl (cI, 10, .inl m_pieceDuals)), (mq5, .inl (cI, 10, .inl m_orderDuals))] H := hP
  have hD : va_D A [(mq, .inr (3, [.ref mq1, .ref mq2, .ref mq3, .ref mq4, .ref mq5, .int x1, .int m_orderCount, .int m_pairs, .int m_worthSum, .int m_upToDate])), (mq1, .inl (cI, 100, .inl m_gains)), (mq2, .inl (cI, 11264, .inl m_best)), (mq3, .inl (cI, 10, .inl m_chosen)), (mq4, .inl (cI, 10, .inl m_pieceDuals)), (mq5, .inl (cI, 10, .inl m_orderDuals))] := hD
  refine lv_aload_n hx hb d_M_solve_5 rfl (lv_at hl 0 rfl) ?_
  refine lv_iload_n hx hb d_M_solve_6 rfl (lv_at hl 2 rfl) ?_
  refine va_put (D := (dC, dI)) (ci := 3) (v := .int x2) (ty := .int) (C := R_M) (T := F_M) (N := 10) hx hb hts hk1 t_M t_M_ok n_M hown hK hP hD hS 0 rfl rfl 6 (by decide) hk2 (fun _ h9 => h9) rfl (by decide +kernel) rfl rfl (Nat.le_of_ble_eq_true rfl) d_M_solve_7 (fun H locs hP hD hS => ?_)
  have hP : va_P (dC, dI) classes [(mq, .inr (3, [.ref mq1, .ref mq2, .ref mq3, .ref mq4, .ref mq5, .int x1, .int x2, .int m_pairs, .int m_worthSum, .int m_upToDate])), (mq1, .inl (cI, 100, .inl m_gains)), (mq2, .inl (cI, 11264, .inl m_best)), (mq3, .inl (cI, 10, .inl m_chosen)), (mq4, .inl (cI, 10, .inl m_pieceDuals)), (mq5, .inl (cI, 10, .inl m_orderDuals))] H := hP
  have hD : va_D A [(mq, .inr (3, [.ref mq1, .ref mq2, .ref mq3, .ref mq4, .ref mq5, .int x1, .int x2, .int m_pairs, .int m_worthSum, .int m_upToDate])), (mq1, .inl (cI, 100, .inl m_gains)), (mq2, .inl (cI, 11264, .inl m_best)), (mq3, .inl (cI, 10, .inl m_chosen)), (mq4, .inl (cI, 10, .inl m_pieceDuals)), (mq5, .inl (cI, 10, .inl m_orderDuals))] := hD
  refine lv_aload_n hx hb d_M_solve_10 rfl (lv_at hl 0 rfl) ?_
  obtain ⟨u2, hc, hm⟩ := bd hm
  try dsimp only at hm
  have hPc := hP.sub (ws' := [(mq, .inr (3, [.ref mq1, .ref mq2, .ref mq3, .ref mq4, .ref mq5, .int x1, .int x2, .int m_pairs, .int m_worthSum, .int m_upToDate])), (mq1, .inl (cI, 100, .inl m_gains)), (mq2, .inl (cI, 11264, .inl m_best)), (mq3, .inl (cI, 10, .inl m_chosen)), (mq4, .inl (cI, 10, .inl m_pieceDuals)), (mq5, .inl (cI, 10, .inl m_orderDuals))]) [0, 1, 2, 3, 4, 5] rfl
  have hDc := hD.sub (ws' := [(mq, .inr (3, [.ref mq1, .ref mq2, .ref mq3, .ref mq4, .ref mq5, .int x1, .int x2, .int m_pairs, .int m_worthSum, .int m_upToDate])), (mq1, .inl (cI, 100, .inl m_gains)), (mq2, .inl (cI, 11264, .inl m_best)), (mq3, .inl (cI, 10, .inl m_chosen)), (mq4, .inl (cI, 10, .inl m_pieceDuals)), (mq5, .inl (cI, 10, .inl m_orderDuals))]) [0, 1, 2, 3, 4, 5] (by decide) rfl
  have hFc := va_free (wc := [(mq, .inr (3, [.ref mq1, .ref mq2, .ref mq3, .ref mq4, .ref mq5, .int x1, .int x2, .int m_pairs, .int m_worthSum, .int m_upToDate])), (mq1, .inl (cI, 100, .inl m_gains)), (mq2, .inl (cI, 11264, .inl m_best)), (mq3, .inl (cI, 10, .inl m_chosen)), (mq4, .inl (cI, 10, .inl m_pieceDuals)), (mq5, .inl (cI, 10, .inl m_orderDuals))]) hD hS hA [0, 1, 2, 3, 4, 5] rfl
  refine va_callv (va_runV (As := []) (rest := []) ⟨hx, hb, hml, hown, hts⟩ (c_M_fillBest l dC dI cI mq mq1 mq2 mq3 mq4 mq5 H.size m_gains m_best m_chosen m_pieceDuals m_orderDuals x1 x2 m_pairs m_worthSum m_upToDate  N u2 hc) (cwV 0 hts (gV (w0 241 rfl) (w0 242 rfl) (w0 4 rfl) (w0 32 rfl) (w0 243 rfl)) rfl rfl rfl q_M_fillBest ⟨Nat.le_of_ble_eq_true rfl, Nat.le_of_ble_eq_true rfl⟩) (wr_preV hK hPc hDc hN 3 0 (R_M, F_M, 10) rfl rfl) rfl rfl hl.1 rfl (lv_room (Nat.le_of_ble_eq_true rfl)) d_M_solve_11 ⟨Nat.le_of_ble_eq_true rfl, Nat.le_of_ble_eq_true rfl⟩) hS (fun q _ h => hFc q h) hFc (fun u t H1 locs ht hvm hw hB hz1 hk1 hS => ?_)
  obtain ⟨hP1, hK1, hD1⟩ := hB
  rw [ht] at hP1
  obtain ⟨hP, hD⟩ := va_join (wr := []) (w1 := [(mq, .inr (3, [.ref mq1, .ref mq2, .ref mq3, .ref mq4, .ref mq5, .int x1, .int x2, .int m_pairs, .int m_worthSum, .int m_upToDate])), (mq1, .inl (cI, 100, .inl m_gains)), (mq2, .inl (cI, 11264, .inl u2)), (mq3, .inl (cI, 10, .inl m_chosen)), (mq4, .inl (cI, 10, .inl m_pieceDuals)), (mq5, .inl (cI, 10, .inl m_orderDuals))]) hP hD [0, 1, 2, 3, 4, 5] [] rfl rfl (by decide) (by decide) hk1 hFc hP1 hD1
  generalize H1 = H at hP hS ⊢
  have hP : va_P (dC, dI) classes [(mq, .inr (3, [.ref mq1, .ref mq2, .ref mq3, .ref mq4, .ref mq5, .int x1, .int x2, .int m_pairs, .int m_worthSum, .int m_upToDate])), (mq1, .inl (cI, 100, .inl m_gains)), (mq2, .inl (cI, 11264, .inl u2)), (mq3, .inl (cI, 10, .inl m_chosen)), (mq4, .inl (cI, 10, .inl m_pieceDuals)), (mq5, .inl (cI, 10, .inl m_orderDuals))] H := hP
  have hD : va_D A [(mq, .inr (3, [.ref mq1, .ref mq2, .ref mq3, .ref mq4, .ref mq5, .int x1, .int x2, .int m_pairs, .int m_worthSum, .int m_upToDate])), (mq1, .inl (cI, 100, .inl m_gains)), (mq2, .inl (cI, 11264, .inl u2)), (mq3, .inl (cI, 10, .inl m_chosen)), (mq4, .inl (cI, 10, .inl m_pieceDuals)), (mq5, .inl (cI, 10, .inl m_orderDuals))] := hD
  clear hP1 hD1 hPc hDc hFc hk1 hz1
  refine lv_aload_n hx hb d_M_solve_14 rfl (lv_at hl 0 rfl) ?_
  obtain ⟨u4, hc, hm⟩ := bd hm
  try dsimp only at hm
  have hPc := hP.sub (ws' := [(mq, .inr (3, [.ref mq1, .ref mq2, .ref mq3, .ref mq4, .ref mq5, .int x1, .int x2, .int m_pairs, .int m_worthSum, .int m_upToDate])), (mq1, .inl (cI, 100, .inl m_gains)), (mq2, .inl (cI, 11264, .inl u2)), (mq3, .inl (cI, 10, .inl m_chosen)), (mq4, .inl (cI, 10, .inl m_pieceDuals)), (mq5, .inl (cI, 10, .inl m_orderDuals))]) [0, 1, 2, 3, 4, 5] rfl
  have hDc := hD.sub (ws' := [(mq, .inr (3, [.ref mq1, .ref mq2, .ref mq3, .ref mq4, .ref mq5, .int x1, .int x2, .int m_pairs, .int m_worthSum, .int m_upToDate])), (mq1, .inl (cI, 100, .inl m_gains)), (mq2, .inl (cI, 11264, .inl u2)), (mq3, .inl (cI, 10, .inl m_chosen)), (mq4, .inl (cI, 10, .inl m_pieceDuals)), (mq5, .inl (cI, 10, .inl m_orderDuals))]) [0, 1, 2, 3, 4, 5] (by decide) rfl
  have hFc := va_free (wc := [(mq, .inr (3, [.ref mq1, .ref mq2, .ref mq3, .ref mq4, .ref mq5, .int x1, .int x2, .int m_pairs, .int m_worthSum, .int m_upToDate])), (mq1, .inl (cI, 100, .inl m_gains)), (mq2, .inl (cI, 11264, .inl u2)), (mq3, .inl (cI, 10, .inl m_chosen)), (mq4, .inl (cI, 10, .inl m_pieceDuals)), (mq5, .inl (cI, 10, .inl m_orderDuals))]) hD hS hA [0, 1, 2, 3, 4, 5] rfl
  refine va_callv (va_runV (As := []) (rest := []) ⟨hx, hb, hml, hown, hts⟩ (c_M_choose l dC dI cI mq mq1 mq2 mq3 mq4 mq5 H.size m_gains u2 m_chosen m_pieceDuals m_orderDuals x1 x2 m_pairs m_worthSum m_upToDate  N u4 hc) (cwV 0 hts (gV (w0 250 rfl) (w0 251 rfl) (w0 6 rfl) (w0 32 rfl) (w0 252 rfl)) rfl rfl rfl q_M_choose ⟨Nat.le_of_ble_eq_true rfl, Nat.le_of_ble_eq_true rfl⟩) (wr_preV hK hPc hDc hN 3 0 (R_M, F_M, 10) rfl rfl) rfl rfl hl.1 rfl (lv_room (Nat.le_of_ble_eq_true rfl)) d_M_solve_15 ⟨Nat.le_of_ble_eq_true rfl, Nat.le_of_ble_eq_true rfl⟩) hS (fun q _ h => hFc q h) hFc (fun u t H1 locs ht hvm hw hB hz1 hk1 hS => ?_)
  obtain ⟨hP1, hK1, hD1⟩ := hB
  rw [ht] at hP1
  obtain ⟨hP, hD⟩ := va_join (wr := []) (w1 := [(mq, .inr (3, [.ref mq1, .ref mq2, .ref mq3, .ref mq4, .ref mq5, .int x1, .int x2, .int m_pairs, .int m_worthSum, .int m_upToDate])), (mq1, .inl (cI, 100, .inl m_gains)), (mq2, .inl (cI, 11264, .inl u2)), (mq3, .inl (cI, 10, .inl u4)), (mq4, .inl (cI, 10, .inl m_pieceDuals)), (mq5, .inl (cI, 10, .inl m_orderDuals))]) hP hD [0, 1, 2, 3, 4, 5] [] rfl rfl (by decide) (by decide) hk1 hFc hP1 hD1
  generalize H1 = H at hP hS ⊢
  have hP : va_P (dC, dI) classes [(mq, .inr (3, [.ref mq1, .ref mq2, .ref mq3, .ref mq4, .ref mq5, .int x1, .int x2, .int m_pairs, .int m_worthSum, .int m_upToDate])), (mq1, .inl (cI, 100, .inl m_gains)), (mq2, .inl (cI, 11264, .inl u2)), (mq3, .inl (cI, 10, .inl u4)), (mq4, .inl (cI, 10, .inl m_pieceDuals)), (mq5, .inl (cI, 10, .inl m_orderDuals))] H := hP
  have hD : va_D A [(mq, .inr (3, [.ref mq1, .ref mq2, .ref mq3, .ref mq4, .ref mq5, .int x1, .int x2, .int m_pairs, .int m_worthSum, .int m_upToDate])), (mq1, .inl (cI, 100, .inl m_gains)), (mq2, .inl (cI, 11264, .inl u2)), (mq3, .inl (cI, 10, .inl u4)), (mq4, .inl (cI, 10, .inl m_pieceDuals)), (mq5, .inl (cI, 10, .inl m_orderDuals))] := hD
  clear hP1 hD1 hPc hDc hFc hk1 hz1
  refine lv_aload_n hx hb d_M_solve_18 rfl (lv_at hl 0 rfl) ?_
  obtain ⟨⟨u6, u7, u8, u9⟩, hc, hm⟩ := bd hm
  try dsimp only at hm
  have hPc := hP.sub (ws' := [(mq, .inr (3, [.ref mq1, .ref mq2, .ref mq3, .ref mq4, .ref mq5, .int x1, .int x2, .int m_pairs, .int m_worthSum, .int m_upToDate])), (mq1, .inl (cI, 100, .inl m_gains)), (mq2, .inl (cI, 11264, .inl u2)), (mq3, .inl (cI, 10, .inl u4)), (mq4, .inl (cI, 10, .inl m_pieceDuals)), (mq5, .inl (cI, 10, .inl m_orderDuals))]) [0, 1, 2, 3, 4, 5] rfl
  have hDc := hD.sub (ws' := [(mq, .inr (3, [.ref mq1, .ref mq2, .ref mq3, .ref mq4, .ref mq5, .int x1, .int x2, .int m_pairs, .int m_worthSum, .int m_upToDate])), (mq1, .inl (cI, 100, .inl m_gains)), (mq2, .inl (cI, 11264, .inl u2)), (mq3, .inl (cI, 10, .inl u4)), (mq4, .inl (cI, 10, .inl m_pieceDuals)), (mq5, .inl (cI, 10, .inl m_orderDuals))]) [0, 1, 2, 3, 4, 5] (by decide) rfl
  have hFc := va_free (wc := [(mq, .inr (3, [.ref mq1, .ref mq2, .ref mq3, .ref mq4, .ref mq5, .int x1, .int x2, .int m_pairs, .int m_worthSum, .int m_upToDate])), (mq1, .inl (cI, 100, .inl m_gains)), (mq2, .inl (cI, 11264, .inl u2)), (mq3, .inl (cI, 10, .inl u4)), (mq4, .inl (cI, 10, .inl m_pieceDuals)), (mq5, .inl (cI, 10, .inl m_orderDuals))]) hD hS hA [0, 1, 2, 3, 4, 5] rfl
  refine va_callv (va_runV (As := []) (rest := []) ⟨hx, hb, hml, hown, hts⟩ (c_M_prove l dC dI cI mq mq1 mq2 mq3 mq4 mq5 H.size m_gains u2 u4 m_pieceDuals m_orderDuals x1 x2 m_pairs m_worthSum m_upToDate  N (u6, u7, u8, u9) hc) (cwV 0 hts (gV (w0 259 rfl) (w0 260 rfl) (w0 9 rfl) (w0 32 rfl) (w0 261 rfl)) rfl rfl rfl q_M_prove ⟨Nat.le_of_ble_eq_true rfl, Nat.le_of_ble_eq_true rfl⟩) (wr_preV hK hPc hDc hN 3 0 (R_M, F_M, 10) rfl rfl) rfl rfl hl.1 rfl (lv_room (Nat.le_of_ble_eq_true rfl)) d_M_solve_19 ⟨Nat.le_of_ble_eq_true rfl, Nat.le_of_ble_eq_true rfl⟩) hS (fun q _ h => hFc q h) hFc (fun u t H1 locs ht hvm hw hB hz1 hk1 hS => ?_)
  obtain ⟨hP1, hK1, hD1⟩ := hB
  rw [ht] at hP1
  obtain ⟨hP, hD⟩ := va_join (wr := []) (w1 := [(mq, .inr (3, [.ref mq1, .ref mq2, .ref mq3, .ref mq4, .ref mq5, .int x1, .int x2, .int u8, .int u9, .int m_upToDate])), (mq1, .inl (cI, 100, .inl m_gains)), (mq2, .inl (cI, 11264, .inl u2)), (mq3, .inl (cI, 10, .inl u4)), (mq4, .inl (cI, 10, .inl u6)), (mq5, .inl (cI, 10, .inl u7))]) hP hD [0, 1, 2, 3, 4, 5] [] rfl rfl (by decide) (by decide) hk1 hFc hP1 hD1
  generalize H1 = H at hP hS ⊢
  have hP : va_P (dC, dI) classes [(mq, .inr (3, [.ref mq1, .ref mq2, .ref mq3, .ref mq4, .ref mq5, .int x1, .int x2, .int u8, .int u9, .int m_upToDate])), (mq1, .inl (cI, 100, .inl m_gains)), (mq2, .inl (cI, 11264, .inl u2)), (mq3, .inl (cI, 10, .inl u4)), (mq4, .inl (cI, 10, .inl u6)), (mq5, .inl (cI, 10, .inl u7))] H := hP
  have hD : va_D A [(mq, .inr (3, [.ref mq1, .ref mq2, .ref mq3, .ref mq4, .ref mq5, .int x1, .int x2, .int u8, .int u9, .int m_upToDate])), (mq1, .inl (cI, 100, .inl m_gains)), (mq2, .inl (cI, 11264, .inl u2)), (mq3, .inl (cI, 10, .inl u4)), (mq4, .inl (cI, 10, .inl u6)), (mq5, .inl (cI, 10, .inl u7))] := hD
  clear hP1 hD1 hPc hDc hFc hk1 hz1
  refine lv_aload_n hx hb d_M_solve_22 rfl (lv_at hl 0 rfl) ?_
  refine lv_iconst (v := 1) hx hb d_M_solve_23 (by decide) ?_
  refine va_put (D := (dC, dI)) (ci := 3) (v := .int 1) (ty := .boolean) (C := R_M) (T := F_M) (N := 10) hx hb hts hk1 t_M t_M_ok n_M hown hK hP hD hS 0 rfl rfl 9 (by decide) hk3 (fun _ h9 => h9) rfl (by decide +kernel) rfl rfl (Nat.le_of_ble_eq_true rfl) d_M_solve_24 (fun H locs hP hD hS => ?_)
  have hP : va_P (dC, dI) classes [(mq, .inr (3, [.ref mq1, .ref mq2, .ref mq3, .ref mq4, .ref mq5, .int x1, .int x2, .int u8, .int u9, .int 1])), (mq1, .inl (cI, 100, .inl m_gains)), (mq2, .inl (cI, 11264, .inl u2)), (mq3, .inl (cI, 10, .inl u4)), (mq4, .inl (cI, 10, .inl u6)), (mq5, .inl (cI, 10, .inl u7))] H := hP
  have hD : va_D A [(mq, .inr (3, [.ref mq1, .ref mq2, .ref mq3, .ref mq4, .ref mq5, .int x1, .int x2, .int u8, .int u9, .int 1])), (mq1, .inl (cI, 100, .inl m_gains)), (mq2, .inl (cI, 11264, .inl u2)), (mq3, .inl (cI, 10, .inl u4)), (mq4, .inl (cI, 10, .inl u6)), (mq5, .inl (cI, 10, .inl u7))] := hD
  cases hm
  refine W.widen (k := 0) (n := 0) (Nat.le_of_ble_eq_true rfl) (Nat.le_of_ble_eq_true rfl) ?_
  exact W.vret hx hb hr (fun t ht hW => ⟨⟨(), rfl, trivial, by rw [ht]; exact hP, va_K.moved hW.alike hK, hD⟩, hS.F ht⟩) hS.2.2 d_M_solve_27

