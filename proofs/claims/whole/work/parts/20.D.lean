theorem d_D_in_0 : decode b_D_in 0 = .ok (.iload_n 0, 1) := by decide +kernel
theorem d_D_in_1 : decode b_D_in 1 = .ok (.iload_n 1, 1) := by decide +kernel
theorem d_D_in_2 : decode b_D_in 2 = .ok (.if_icmp .lt 12, 3) := by decide +kernel
theorem d_D_in_5 : decode b_D_in 5 = .ok (.iload_n 0, 1) := by decide +kernel
theorem d_D_in_6 : decode b_D_in 6 = .ok (.iload_n 2, 1) := by decide +kernel
theorem d_D_in_7 : decode b_D_in 7 = .ok (.if_icmp .gt 7, 3) := by decide +kernel
theorem d_D_in_10 : decode b_D_in 10 = .ok (.iconst 1, 1) := by decide +kernel
theorem d_D_in_11 : decode b_D_in 11 = .ok (.goto 4, 3) := by decide +kernel
theorem d_D_in_14 : decode b_D_in 14 = .ok (.iconst 0, 1) := by decide +kernel
theorem d_D_in_15 : decode b_D_in 15 = .ok (.ireturn, 1) := by decide +kernel
theorem d_D_areSizes_0 : decode b_D_areSizes 0 = .ok (.iload_n 0, 1) := by decide +kernel
theorem d_D_areSizes_1 : decode b_D_areSizes 1 = .ok (.iconst 1, 1) := by decide +kernel
theorem d_D_areSizes_2 : decode b_D_areSizes 2 = .ok (.sipush 1000, 3) := by decide +kernel
theorem d_D_areSizes_5 : decode b_D_areSizes 5 = .ok (.invokestatic 55, 3) := by decide +kernel
theorem d_D_areSizes_8 : decode b_D_areSizes 8 = .ok (.ifCond .eq 39, 3) := by decide +kernel
theorem d_D_areSizes_11 : decode b_D_areSizes 11 = .ok (.iload_n 1, 1) := by decide +kernel
theorem d_D_areSizes_12 : decode b_D_areSizes 12 = .ok (.iconst 1, 1) := by decide +kernel
theorem d_D_areSizes_13 : decode b_D_areSizes 13 = .ok (.sipush 1000, 3) := by decide +kernel
theorem d_D_areSizes_16 : decode b_D_areSizes 16 = .ok (.invokestatic 55, 3) := by decide +kernel
theorem d_D_areSizes_19 : decode b_D_areSizes 19 = .ok (.ifCond .eq 28, 3) := by decide +kernel
theorem d_D_areSizes_22 : decode b_D_areSizes 22 = .ok (.iload_n 2, 1) := by decide +kernel
theorem d_D_areSizes_23 : decode b_D_areSizes 23 = .ok (.iconst 1, 1) := by decide +kernel
theorem d_D_areSizes_24 : decode b_D_areSizes 24 = .ok (.sipush 1000, 3) := by decide +kernel
theorem d_D_areSizes_27 : decode b_D_areSizes 27 = .ok (.invokestatic 55, 3) := by decide +kernel
theorem d_D_areSizes_30 : decode b_D_areSizes 30 = .ok (.ifCond .eq 17, 3) := by decide +kernel
theorem d_D_areSizes_33 : decode b_D_areSizes 33 = .ok (.iload_n 3, 1) := by decide +kernel
theorem d_D_areSizes_34 : decode b_D_areSizes 34 = .ok (.iconst 0, 1) := by decide +kernel
theorem d_D_areSizes_35 : decode b_D_areSizes 35 = .ok (.bipush 7, 2) := by decide +kernel
theorem d_D_areSizes_37 : decode b_D_areSizes 37 = .ok (.invokestatic 55, 3) := by decide +kernel
theorem d_D_areSizes_40 : decode b_D_areSizes 40 = .ok (.ifCond .eq 7, 3) := by decide +kernel
theorem d_D_areSizes_43 : decode b_D_areSizes 43 = .ok (.iconst 1, 1) := by decide +kernel
theorem d_D_areSizes_44 : decode b_D_areSizes 44 = .ok (.goto 4, 3) := by decide +kernel
theorem d_D_areSizes_47 : decode b_D_areSizes 47 = .ok (.iconst 0, 1) := by decide +kernel
theorem d_D_areSizes_48 : decode b_D_areSizes 48 = .ok (.ireturn, 1) := by decide +kernel
theorem d_D_thrown_0 : decode b_D_thrown 0 = .ok (.aload_n 0, 1) := by decide +kernel
theorem d_D_thrown_1 : decode b_D_thrown 1 = .ok (.getfield 49, 3) := by decide +kernel
theorem d_D_thrown_4 : decode b_D_thrown 4 = .ok (.ireturn, 1) := by decide +kernel
theorem d_D_goes_0 : decode b_D_goes 0 = .ok (.aload_n 0, 1) := by decide +kernel
theorem d_D_goes_1 : decode b_D_goes 1 = .ok (.iload_n 1, 1) := by decide +kernel
theorem d_D_goes_2 : decode b_D_goes 2 = .ok (.ifCond .ne 7, 3) := by decide +kernel
theorem d_D_goes_5 : decode b_D_goes 5 = .ok (.iconst 1, 1) := by decide +kernel
theorem d_D_goes_6 : decode b_D_goes 6 = .ok (.goto 29, 3) := by decide +kernel
theorem d_D_goes_9 : decode b_D_goes 9 = .ok (.iload_n 2, 1) := by decide +kernel
theorem d_D_goes_10 : decode b_D_goes 10 = .ok (.ifCond .ne 7, 3) := by decide +kernel
theorem d_D_goes_13 : decode b_D_goes 13 = .ok (.iconst 2, 1) := by decide +kernel
theorem d_D_goes_14 : decode b_D_goes 14 = .ok (.goto 21, 3) := by decide +kernel
theorem d_D_goes_17 : decode b_D_goes 17 = .ok (.iload_n 3, 1) := by decide +kernel
theorem d_D_goes_18 : decode b_D_goes 18 = .ok (.ifCond .ne 7, 3) := by decide +kernel
theorem d_D_goes_21 : decode b_D_goes 21 = .ok (.iconst 3, 1) := by decide +kernel
theorem d_D_goes_22 : decode b_D_goes 22 = .ok (.goto 13, 3) := by decide +kernel
theorem d_D_goes_25 : decode b_D_goes 25 = .ok (.iload 4, 2) := by decide +kernel
theorem d_D_goes_27 : decode b_D_goes 27 = .ok (.ifCond .ne 7, 3) := by decide +kernel
theorem d_D_goes_30 : decode b_D_goes 30 = .ok (.iconst 4, 1) := by decide +kernel
theorem d_D_goes_31 : decode b_D_goes 31 = .ok (.goto 4, 3) := by decide +kernel
theorem d_D_goes_34 : decode b_D_goes 34 = .ok (.iconst 0, 1) := by decide +kernel
theorem d_D_goes_35 : decode b_D_goes 35 = .ok (.putfield 49, 3) := by decide +kernel
theorem d_D_goes_38 : decode b_D_goes 38 = .ok (.aload_n 0, 1) := by decide +kernel
theorem d_D_goes_39 : decode b_D_goes 39 = .ok (.getfield 49, 3) := by decide +kernel
theorem d_D_goes_42 : decode b_D_goes 42 = .ok (.ifCond .ne 7, 3) := by decide +kernel
theorem d_D_goes_45 : decode b_D_goes 45 = .ok (.iconst 1, 1) := by decide +kernel
theorem d_D_goes_46 : decode b_D_goes 46 = .ok (.goto 4, 3) := by decide +kernel
theorem d_D_goes_49 : decode b_D_goes 49 = .ok (.iconst 0, 1) := by decide +kernel
theorem d_D_goes_50 : decode b_D_goes 50 = .ok (.ireturn, 1) := by decide +kernel
theorem d_D_isPiece_0 : decode b_D_isPiece 0 = .ok (.iload_n 1, 1) := by decide +kernel
theorem d_D_isPiece_1 : decode b_D_isPiece 1 = .ok (.iconst 0, 1) := by decide +kernel
theorem d_D_isPiece_2 : decode b_D_isPiece 2 = .ok (.aload_n 0, 1) := by decide +kernel
theorem d_D_isPiece_3 : decode b_D_isPiece 3 = .ok (.getfield 52, 3) := by decide +kernel
theorem d_D_isPiece_6 : decode b_D_isPiece 6 = .ok (.iconst 1, 1) := by decide +kernel
theorem d_D_isPiece_7 : decode b_D_isPiece 7 = .ok (.isub, 1) := by decide +kernel
theorem d_D_isPiece_8 : decode b_D_isPiece 8 = .ok (.invokestatic 55, 3) := by decide +kernel
theorem d_D_isPiece_11 : decode b_D_isPiece 11 = .ok (.ireturn, 1) := by decide +kernel
theorem d_D_isOrder_0 : decode b_D_isOrder 0 = .ok (.iload_n 1, 1) := by decide +kernel
theorem d_D_isOrder_1 : decode b_D_isOrder 1 = .ok (.iconst 0, 1) := by decide +kernel
theorem d_D_isOrder_2 : decode b_D_isOrder 2 = .ok (.aload_n 0, 1) := by decide +kernel
theorem d_D_isOrder_3 : decode b_D_isOrder 3 = .ok (.getfield 59, 3) := by decide +kernel
theorem d_D_isOrder_6 : decode b_D_isOrder 6 = .ok (.iconst 1, 1) := by decide +kernel
theorem d_D_isOrder_7 : decode b_D_isOrder 7 = .ok (.isub, 1) := by decide +kernel
theorem d_D_isOrder_8 : decode b_D_isOrder 8 = .ok (.invokestatic 55, 3) := by decide +kernel
theorem d_D_isOrder_11 : decode b_D_isOrder 11 = .ok (.ireturn, 1) := by decide +kernel
theorem d_D_isFit_0 : decode b_D_isFit 0 = .ok (.iconst 4, 1) := by decide +kernel
theorem d_D_isFit_1 : decode b_D_isFit 1 = .ok (.iload_n 1, 1) := by decide +kernel
theorem d_D_isFit_2 : decode b_D_isFit 2 = .ok (.imul, 1) := by decide +kernel
theorem d_D_isFit_3 : decode b_D_isFit 3 = .ok (.istore_n 3, 1) := by decide +kernel
theorem d_D_isFit_4 : decode b_D_isFit 4 = .ok (.iconst 4, 1) := by decide +kernel
theorem d_D_isFit_5 : decode b_D_isFit 5 = .ok (.iload_n 2, 1) := by decide +kernel
theorem d_D_isFit_6 : decode b_D_isFit 6 = .ok (.imul, 1) := by decide +kernel
theorem d_D_isFit_7 : decode b_D_isFit 7 = .ok (.istore 4, 2) := by decide +kernel
theorem d_D_isFit_9 : decode b_D_isFit 9 = .ok (.aload_n 0, 1) := by decide +kernel
theorem d_D_isFit_10 : decode b_D_isFit 10 = .ok (.getfield 13, 3) := by decide +kernel
theorem d_D_isFit_13 : decode b_D_isFit 13 = .ok (.iload_n 3, 1) := by decide +kernel
theorem d_D_isFit_14 : decode b_D_isFit 14 = .ok (.iaload, 1) := by decide +kernel
theorem d_D_isFit_15 : decode b_D_isFit 15 = .ok (.aload_n 0, 1) := by decide +kernel
theorem d_D_isFit_16 : decode b_D_isFit 16 = .ok (.getfield 17, 3) := by decide +kernel
theorem d_D_isFit_19 : decode b_D_isFit 19 = .ok (.iload 4, 2) := by decide +kernel
theorem d_D_isFit_21 : decode b_D_isFit 21 = .ok (.iaload, 1) := by decide +kernel
theorem d_D_isFit_22 : decode b_D_isFit 22 = .ok (.if_icmp .ne 67, 3) := by decide +kernel
theorem d_D_isFit_25 : decode b_D_isFit 25 = .ok (.aload_n 0, 1) := by decide +kernel
theorem d_D_isFit_26 : decode b_D_isFit 26 = .ok (.getfield 13, 3) := by decide +kernel
theorem d_D_isFit_29 : decode b_D_isFit 29 = .ok (.iload_n 3, 1) := by decide +kernel
theorem d_D_isFit_30 : decode b_D_isFit 30 = .ok (.iconst 1, 1) := by decide +kernel
theorem d_D_isFit_31 : decode b_D_isFit 31 = .ok (.iadd, 1) := by decide +kernel
theorem d_D_isFit_32 : decode b_D_isFit 32 = .ok (.iaload, 1) := by decide +kernel
theorem d_D_isFit_33 : decode b_D_isFit 33 = .ok (.aload_n 0, 1) := by decide +kernel
theorem d_D_isFit_34 : decode b_D_isFit 34 = .ok (.getfield 17, 3) := by decide +kernel
theorem d_D_isFit_37 : decode b_D_isFit 37 = .ok (.iload 4, 2) := by decide +kernel
theorem d_D_isFit_39 : decode b_D_isFit 39 = .ok (.iconst 1, 1) := by decide +kernel
theorem d_D_isFit_40 : decode b_D_isFit 40 = .ok (.iadd, 1) := by decide +kernel
theorem d_D_isFit_41 : decode b_D_isFit 41 = .ok (.iaload, 1) := by decide +kernel
theorem d_D_isFit_42 : decode b_D_isFit 42 = .ok (.if_icmp .lt 47, 3) := by decide +kernel
theorem d_D_isFit_45 : decode b_D_isFit 45 = .ok (.aload_n 0, 1) := by decide +kernel
theorem d_D_isFit_46 : decode b_D_isFit 46 = .ok (.getfield 13, 3) := by decide +kernel
theorem d_D_isFit_49 : decode b_D_isFit 49 = .ok (.iload_n 3, 1) := by decide +kernel
theorem d_D_isFit_50 : decode b_D_isFit 50 = .ok (.iconst 2, 1) := by decide +kernel
theorem d_D_isFit_51 : decode b_D_isFit 51 = .ok (.iadd, 1) := by decide +kernel
theorem d_D_isFit_52 : decode b_D_isFit 52 = .ok (.iaload, 1) := by decide +kernel
theorem d_D_isFit_53 : decode b_D_isFit 53 = .ok (.aload_n 0, 1) := by decide +kernel
theorem d_D_isFit_54 : decode b_D_isFit 54 = .ok (.getfield 17, 3) := by decide +kernel
theorem d_D_isFit_57 : decode b_D_isFit 57 = .ok (.iload 4, 2) := by decide +kernel
theorem d_D_isFit_59 : decode b_D_isFit 59 = .ok (.iconst 2, 1) := by decide +kernel
theorem d_D_isFit_60 : decode b_D_isFit 60 = .ok (.iadd, 1) := by decide +kernel
theorem d_D_isFit_61 : decode b_D_isFit 61 = .ok (.iaload, 1) := by decide +kernel
theorem d_D_isFit_62 : decode b_D_isFit 62 = .ok (.if_icmp .lt 27, 3) := by decide +kernel
theorem d_D_isFit_65 : decode b_D_isFit 65 = .ok (.aload_n 0, 1) := by decide +kernel
theorem d_D_isFit_66 : decode b_D_isFit 66 = .ok (.getfield 13, 3) := by decide +kernel
theorem d_D_isFit_69 : decode b_D_isFit 69 = .ok (.iload_n 3, 1) := by decide +kernel
theorem d_D_isFit_70 : decode b_D_isFit 70 = .ok (.iconst 3, 1) := by decide +kernel
theorem d_D_isFit_71 : decode b_D_isFit 71 = .ok (.iadd, 1) := by decide +kernel
theorem d_D_isFit_72 : decode b_D_isFit 72 = .ok (.iaload, 1) := by decide +kernel
theorem d_D_isFit_73 : decode b_D_isFit 73 = .ok (.aload_n 0, 1) := by decide +kernel
theorem d_D_isFit_74 : decode b_D_isFit 74 = .ok (.getfield 17, 3) := by decide +kernel
theorem d_D_isFit_77 : decode b_D_isFit 77 = .ok (.iload 4, 2) := by decide +kernel
theorem d_D_isFit_79 : decode b_D_isFit 79 = .ok (.iconst 3, 1) := by decide +kernel
theorem d_D_isFit_80 : decode b_D_isFit 80 = .ok (.iadd, 1) := by decide +kernel
theorem d_D_isFit_81 : decode b_D_isFit 81 = .ok (.iaload, 1) := by decide +kernel
theorem d_D_isFit_82 : decode b_D_isFit 82 = .ok (.if_icmp .ne 7, 3) := by decide +kernel
theorem d_D_isFit_85 : decode b_D_isFit 85 = .ok (.iconst 1, 1) := by decide +kernel
theorem d_D_isFit_86 : decode b_D_isFit 86 = .ok (.goto 4, 3) := by decide +kernel
theorem d_D_isFit_89 : decode b_D_isFit 89 = .ok (.iconst 0, 1) := by decide +kernel
theorem d_D_isFit_90 : decode b_D_isFit 90 = .ok (.ireturn, 1) := by decide +kernel
theorem d_D_netOf_0 : decode b_D_netOf 0 = .ok (.aload_n 0, 1) := by decide +kernel
theorem d_D_netOf_1 : decode b_D_netOf 1 = .ok (.getfield 23, 3) := by decide +kernel
theorem d_D_netOf_4 : decode b_D_netOf 4 = .ok (.bipush 10, 2) := by decide +kernel
theorem d_D_netOf_6 : decode b_D_netOf 6 = .ok (.iload_n 1, 1) := by decide +kernel
theorem d_D_netOf_7 : decode b_D_netOf 7 = .ok (.imul, 1) := by decide +kernel
theorem d_D_netOf_8 : decode b_D_netOf 8 = .ok (.iload_n 2, 1) := by decide +kernel
theorem d_D_netOf_9 : decode b_D_netOf 9 = .ok (.iadd, 1) := by decide +kernel
theorem d_D_netOf_10 : decode b_D_netOf 10 = .ok (.iaload, 1) := by decide +kernel
theorem d_D_netOf_11 : decode b_D_netOf 11 = .ok (.aload_n 0, 1) := by decide +kernel
theorem d_D_netOf_12 : decode b_D_netOf 12 = .ok (.getfield 92, 3) := by decide +kernel
theorem d_D_netOf_15 : decode b_D_netOf 15 = .ok (.aload_n 0, 1) := by decide +kernel
theorem d_D_netOf_16 : decode b_D_netOf 16 = .ok (.getfield 70, 3) := by decide +kernel
theorem d_D_netOf_19 : decode b_D_netOf 19 = .ok (.aload_n 0, 1) := by decide +kernel
theorem d_D_netOf_20 : decode b_D_netOf 20 = .ok (.getfield 20, 3) := by decide +kernel
theorem d_D_netOf_23 : decode b_D_netOf 23 = .ok (.iload_n 1, 1) := by decide +kernel
theorem d_D_netOf_24 : decode b_D_netOf 24 = .ok (.iaload, 1) := by decide +kernel
theorem d_D_netOf_25 : decode b_D_netOf 25 = .ok (.isub, 1) := by decide +kernel
theorem d_D_netOf_26 : decode b_D_netOf 26 = .ok (.imul, 1) := by decide +kernel
theorem d_D_netOf_27 : decode b_D_netOf 27 = .ok (.isub, 1) := by decide +kernel
theorem d_D_netOf_28 : decode b_D_netOf 28 = .ok (.istore_n 3, 1) := by decide +kernel
theorem d_D_netOf_29 : decode b_D_netOf 29 = .ok (.aload_n 0, 1) := by decide +kernel
theorem d_D_netOf_30 : decode b_D_netOf 30 = .ok (.getfield 13, 3) := by decide +kernel
theorem d_D_netOf_33 : decode b_D_netOf 33 = .ok (.iconst 4, 1) := by decide +kernel
theorem d_D_netOf_34 : decode b_D_netOf 34 = .ok (.iload_n 1, 1) := by decide +kernel
theorem d_D_netOf_35 : decode b_D_netOf 35 = .ok (.imul, 1) := by decide +kernel
theorem d_D_netOf_36 : decode b_D_netOf 36 = .ok (.iconst 1, 1) := by decide +kernel
theorem d_D_netOf_37 : decode b_D_netOf 37 = .ok (.iadd, 1) := by decide +kernel
theorem d_D_netOf_38 : decode b_D_netOf 38 = .ok (.iaload, 1) := by decide +kernel
theorem d_D_netOf_39 : decode b_D_netOf 39 = .ok (.aload_n 0, 1) := by decide +kernel
theorem d_D_netOf_40 : decode b_D_netOf 40 = .ok (.getfield 17, 3) := by decide +kernel
theorem d_D_netOf_43 : decode b_D_netOf 43 = .ok (.iconst 4, 1) := by decide +kernel
theorem d_D_netOf_44 : decode b_D_netOf 44 = .ok (.iload_n 2, 1) := by decide +kernel
theorem d_D_netOf_45 : decode b_D_netOf 45 = .ok (.imul, 1) := by decide +kernel
theorem d_D_netOf_46 : decode b_D_netOf 46 = .ok (.iconst 1, 1) := by decide +kernel
theorem d_D_netOf_47 : decode b_D_netOf 47 = .ok (.iadd, 1) := by decide +kernel
theorem d_D_netOf_48 : decode b_D_netOf 48 = .ok (.iaload, 1) := by decide +kernel
theorem d_D_netOf_49 : decode b_D_netOf 49 = .ok (.if_icmp .eq 10, 3) := by decide +kernel
theorem d_D_netOf_52 : decode b_D_netOf 52 = .ok (.iload_n 3, 1) := by decide +kernel
theorem d_D_netOf_53 : decode b_D_netOf 53 = .ok (.aload_n 0, 1) := by decide +kernel
theorem d_D_netOf_54 : decode b_D_netOf 54 = .ok (.getfield 89, 3) := by decide +kernel
theorem d_D_netOf_57 : decode b_D_netOf 57 = .ok (.isub, 1) := by decide +kernel
theorem d_D_netOf_58 : decode b_D_netOf 58 = .ok (.istore_n 3, 1) := by decide +kernel
theorem d_D_netOf_59 : decode b_D_netOf 59 = .ok (.aload_n 0, 1) := by decide +kernel
theorem d_D_netOf_60 : decode b_D_netOf 60 = .ok (.getfield 13, 3) := by decide +kernel
theorem d_D_netOf_63 : decode b_D_netOf 63 = .ok (.iconst 4, 1) := by decide +kernel
theorem d_D_netOf_64 : decode b_D_netOf 64 = .ok (.iload_n 1, 1) := by decide +kernel
theorem d_D_netOf_65 : decode b_D_netOf 65 = .ok (.imul, 1) := by decide +kernel
theorem d_D_netOf_66 : decode b_D_netOf 66 = .ok (.iconst 2, 1) := by decide +kernel
theorem d_D_netOf_67 : decode b_D_netOf 67 = .ok (.iadd, 1) := by decide +kernel
theorem d_D_netOf_68 : decode b_D_netOf 68 = .ok (.iaload, 1) := by decide +kernel
theorem d_D_netOf_69 : decode b_D_netOf 69 = .ok (.aload_n 0, 1) := by decide +kernel
theorem d_D_netOf_70 : decode b_D_netOf 70 = .ok (.getfield 17, 3) := by decide +kernel
theorem d_D_netOf_73 : decode b_D_netOf 73 = .ok (.iconst 4, 1) := by decide +kernel
theorem d_D_netOf_74 : decode b_D_netOf 74 = .ok (.iload_n 2, 1) := by decide +kernel
theorem d_D_netOf_75 : decode b_D_netOf 75 = .ok (.imul, 1) := by decide +kernel
theorem d_D_netOf_76 : decode b_D_netOf 76 = .ok (.iconst 2, 1) := by decide +kernel
theorem d_D_netOf_77 : decode b_D_netOf 77 = .ok (.iadd, 1) := by decide +kernel
theorem d_D_netOf_78 : decode b_D_netOf 78 = .ok (.iaload, 1) := by decide +kernel
theorem d_D_netOf_79 : decode b_D_netOf 79 = .ok (.if_icmp .eq 10, 3) := by decide +kernel
theorem d_D_netOf_82 : decode b_D_netOf 82 = .ok (.iload_n 3, 1) := by decide +kernel
theorem d_D_netOf_83 : decode b_D_netOf 83 = .ok (.aload_n 0, 1) := by decide +kernel
theorem d_D_netOf_84 : decode b_D_netOf 84 = .ok (.getfield 89, 3) := by decide +kernel
theorem d_D_netOf_87 : decode b_D_netOf 87 = .ok (.isub, 1) := by decide +kernel
theorem d_D_netOf_88 : decode b_D_netOf 88 = .ok (.istore_n 3, 1) := by decide +kernel
theorem d_D_netOf_89 : decode b_D_netOf 89 = .ok (.iload_n 3, 1) := by decide +kernel
theorem d_D_netOf_90 : decode b_D_netOf 90 = .ok (.ifCond .le 7, 3) := by decide +kernel
theorem d_D_netOf_93 : decode b_D_netOf 93 = .ok (.iload_n 3, 1) := by decide +kernel
theorem d_D_netOf_94 : decode b_D_netOf 94 = .ok (.goto 4, 3) := by decide +kernel
theorem d_D_netOf_97 : decode b_D_netOf 97 = .ok (.iconst 0, 1) := by decide +kernel
theorem d_D_netOf_98 : decode b_D_netOf 98 = .ok (.ireturn, 1) := by decide +kernel
theorem d_D_reservation_0 : decode b_D_reservation 0 = .ok (.aload_n 0, 1) := by decide +kernel
theorem d_D_reservation_1 : decode b_D_reservation 1 = .ok (.getfield 36, 3) := by decide +kernel
theorem d_D_reservation_4 : decode b_D_reservation 4 = .ok (.iload_n 1, 1) := by decide +kernel
theorem d_D_reservation_5 : decode b_D_reservation 5 = .ok (.iaload, 1) := by decide +kernel
theorem d_D_reservation_6 : decode b_D_reservation 6 = .ok (.aload_n 0, 1) := by decide +kernel
theorem d_D_reservation_7 : decode b_D_reservation 7 = .ok (.getfield 70, 3) := by decide +kernel
theorem d_D_reservation_10 : decode b_D_reservation 10 = .ok (.if_icmp .lt 12, 3) := by decide +kernel
theorem d_D_reservation_13 : decode b_D_reservation 13 = .ok (.aload_n 0, 1) := by decide +kernel
theorem d_D_reservation_14 : decode b_D_reservation 14 = .ok (.getfield 33, 3) := by decide +kernel
theorem d_D_reservation_17 : decode b_D_reservation 17 = .ok (.iload_n 1, 1) := by decide +kernel
theorem d_D_reservation_18 : decode b_D_reservation 18 = .ok (.iaload, 1) := by decide +kernel
theorem d_D_reservation_19 : decode b_D_reservation 19 = .ok (.goto 4, 3) := by decide +kernel
theorem d_D_reservation_22 : decode b_D_reservation 22 = .ok (.iconst (-1), 1) := by decide +kernel
theorem d_D_reservation_23 : decode b_D_reservation 23 = .ok (.ireturn, 1) := by decide +kernel
theorem d_D_holder_0 : decode b_D_holder 0 = .ok (.iconst 0, 1) := by decide +kernel
theorem d_D_holder_1 : decode b_D_holder 1 = .ok (.istore_n 2, 1) := by decide +kernel
theorem d_D_holder_2 : decode b_D_holder 2 = .ok (.iload_n 2, 1) := by decide +kernel
theorem d_D_holder_3 : decode b_D_holder 3 = .ok (.aload_n 0, 1) := by decide +kernel
theorem d_D_holder_4 : decode b_D_holder 4 = .ok (.getfield 52, 3) := by decide +kernel
theorem d_D_holder_7 : decode b_D_holder 7 = .ok (.if_icmp .ge 20, 3) := by decide +kernel
theorem d_D_holder_10 : decode b_D_holder 10 = .ok (.aload_n 0, 1) := by decide +kernel
theorem d_D_holder_11 : decode b_D_holder 11 = .ok (.iload_n 2, 1) := by decide +kernel
theorem d_D_holder_12 : decode b_D_holder 12 = .ok (.invokevirtual 99, 3) := by decide +kernel
theorem d_D_holder_15 : decode b_D_holder 15 = .ok (.iload_n 1, 1) := by decide +kernel
theorem d_D_holder_16 : decode b_D_holder 16 = .ok (.if_icmp .ne 5, 3) := by decide +kernel
theorem d_D_holder_19 : decode b_D_holder 19 = .ok (.iload_n 2, 1) := by decide +kernel
theorem d_D_holder_20 : decode b_D_holder 20 = .ok (.ireturn, 1) := by decide +kernel
theorem d_D_holder_21 : decode b_D_holder 21 = .ok (.iinc 2 1, 3) := by decide +kernel
theorem d_D_holder_24 : decode b_D_holder 24 = .ok (.goto (-22), 3) := by decide +kernel
theorem d_D_holder_27 : decode b_D_holder 27 = .ok (.iconst (-1), 1) := by decide +kernel
theorem d_D_holder_28 : decode b_D_holder 28 = .ok (.ireturn, 1) := by decide +kernel
theorem d_D_can_0 : decode b_D_can 0 = .ok (.aload_n 0, 1) := by decide +kernel
theorem d_D_can_1 : decode b_D_can 1 = .ok (.getfield 26, 3) := by decide +kernel
theorem d_D_can_4 : decode b_D_can 4 = .ok (.iload_n 1, 1) := by decide +kernel
theorem d_D_can_5 : decode b_D_can 5 = .ok (.baload, 1) := by decide +kernel
theorem d_D_can_6 : decode b_D_can 6 = .ok (.ifCond .ne 21, 3) := by decide +kernel
theorem d_D_can_9 : decode b_D_can 9 = .ok (.aload_n 0, 1) := by decide +kernel
theorem d_D_can_10 : decode b_D_can 10 = .ok (.getfield 30, 3) := by decide +kernel
theorem d_D_can_13 : decode b_D_can 13 = .ok (.iload_n 2, 1) := by decide +kernel
theorem d_D_can_14 : decode b_D_can 14 = .ok (.iaload, 1) := by decide +kernel
theorem d_D_can_15 : decode b_D_can 15 = .ok (.ifCond .ge 12, 3) := by decide +kernel
theorem d_D_can_18 : decode b_D_can 18 = .ok (.aload_n 0, 1) := by decide +kernel
theorem d_D_can_19 : decode b_D_can 19 = .ok (.iload_n 1, 1) := by decide +kernel
theorem d_D_can_20 : decode b_D_can 20 = .ok (.iload_n 2, 1) := by decide +kernel
theorem d_D_can_21 : decode b_D_can 21 = .ok (.invokevirtual 85, 3) := by decide +kernel
theorem d_D_can_24 : decode b_D_can 24 = .ok (.ifCond .ne 5, 3) := by decide +kernel
theorem d_D_can_27 : decode b_D_can 27 = .ok (.iconst 0, 1) := by decide +kernel
theorem d_D_can_28 : decode b_D_can 28 = .ok (.ireturn, 1) := by decide +kernel
theorem d_D_can_29 : decode b_D_can 29 = .ok (.aload_n 0, 1) := by decide +kernel
theorem d_D_can_30 : decode b_D_can 30 = .ok (.iload_n 1, 1) := by decide +kernel
theorem d_D_can_31 : decode b_D_can 31 = .ok (.invokevirtual 99, 3) := by decide +kernel
theorem d_D_can_34 : decode b_D_can 34 = .ok (.istore_n 3, 1) := by decide +kernel
theorem d_D_can_35 : decode b_D_can 35 = .ok (.aload_n 0, 1) := by decide +kernel
theorem d_D_can_36 : decode b_D_can 36 = .ok (.iload_n 2, 1) := by decide +kernel
theorem d_D_can_37 : decode b_D_can 37 = .ok (.invokevirtual 103, 3) := by decide +kernel
theorem d_D_can_40 : decode b_D_can 40 = .ok (.istore 4, 2) := by decide +kernel
theorem d_D_can_42 : decode b_D_can 42 = .ok (.iload_n 3, 1) := by decide +kernel
theorem d_D_can_43 : decode b_D_can 43 = .ok (.ifCond .lt 8, 3) := by decide +kernel
theorem d_D_can_46 : decode b_D_can 46 = .ok (.iload_n 3, 1) := by decide +kernel
theorem d_D_can_47 : decode b_D_can 47 = .ok (.iload_n 2, 1) := by decide +kernel
theorem d_D_can_48 : decode b_D_can 48 = .ok (.if_icmp .ne 18, 3) := by decide +kernel
theorem d_D_can_51 : decode b_D_can 51 = .ok (.iload 4, 2) := by decide +kernel
theorem d_D_can_53 : decode b_D_can 53 = .ok (.ifCond .lt 9, 3) := by decide +kernel
theorem d_D_can_56 : decode b_D_can 56 = .ok (.iload 4, 2) := by decide +kernel
theorem d_D_can_58 : decode b_D_can 58 = .ok (.iload_n 1, 1) := by decide +kernel
theorem d_D_can_59 : decode b_D_can 59 = .ok (.if_icmp .ne 7, 3) := by decide +kernel
theorem d_D_can_62 : decode b_D_can 62 = .ok (.iconst 1, 1) := by decide +kernel
theorem d_D_can_63 : decode b_D_can 63 = .ok (.goto 4, 3) := by decide +kernel
theorem d_D_can_66 : decode b_D_can 66 = .ok (.iconst 0, 1) := by decide +kernel
theorem d_D_can_67 : decode b_D_can 67 = .ok (.ireturn, 1) := by decide +kernel
def w_D_in : List Cond := .code y_D_in b_D_in 3 (some .boolean) :: W0
theorem q_D_in : y_D_in.cls = R_D ∧ y_D_in.cls ≠ "java/lang/invoke/MethodHandle" ∧ y_D_in.cls ≠ "java/lang/invoke/VarHandle" ∧ (parseMethodDescriptor y_D_in.desc).map (fun d => d.parameters.length) = some 3 := by decide +kernel
def m_D_in (x0 : Int32) (x1 : Int32) (x2 : Int32) : Option Int32 :=
  (if x0 < x1 then
  some 0
 else
  (if x2 < x0 then
    some 0
   else
    some 1))
set_option maxHeartbeats 4000000 in
set_option maxRecDepth 100000 in
theorem c_D_in (l : Launch) (dC : Nat → ClassId) (dI : Nat → Nat → Nat) (cI : ClassId)  (x0 : Int32) (x1 : Int32) (x2 : Int32) (N : Nat) (res : Int32) (hm : m_D_in x0 x1 x2 = some res) : Met l y_D_in w_D_in ({ frames := 0, cells := 0, slots := 0, locals := 0 } : Room) (va_Pc [.int x0, .int x1, .int x2] (fun _ => True)) (vp_Si (fun x => res = x)) 0 0 (fun _ => False) := by
  unfold m_D_in at hm
  refine Met.ofW (cc := b_D_in) (maxL := 3) (ret := (some .boolean)) (by decide) rfl ?_
  intro p e s m args below meth c s₁ B hml hv
  obtain ⟨rfl, -⟩ := hv
  have hx := B.exec
  have hb := B.bytes
  have hr := B.returns
  have hts := atoms_spec (ws := w_D_in) B.pre
  have hown : s.vm.findClass R_D = some m.cls := findClass_of_methodNamed B.named
  have hlocks := B.notSynchronized
  have hl := lv_entry ([.int x0, .int x1, .int x2]) (n := 3) (Nat.le_of_ble_eq_true rfl)
  rw [lg_entry_eq]
  generalize (lg_sl ([.int x0, .int x1, .int x2]) ++ List.replicate (3 - (lg_sl ([.int x0, .int x1, .int x2])).length) Slot.unset).toArray = ls at hl ⊢
  have hl : lv_has ls 3 [(0, .int x0), (1, .int x1), (2, .int x2)] := hl
  refine lv_iload_n hx hb d_D_in_0 rfl (lv_at hl 0 rfl) ?_
  refine lv_iload_n hx hb d_D_in_1 rfl (lv_at hl 1 rfl) ?_
  refine lv_icmp_lt (tgt := 14) hx hb d_D_in_2 (by decide) (fun c9 => ?_) (fun c9 => ?_)
  · replace hm := if_t c9 hm
    refine lv_iconst (v := 0) hx hb d_D_in_14 (by decide) ?_
    cases hm
    exact W.zret hx hb hr (by decide) (fun t ht hW => ⟨_, rfl, rfl, ht⟩) (fun _ h => nomatch h) d_D_in_15
  · replace hm := if_f c9 hm
    refine lv_iload_n hx hb d_D_in_5 rfl (lv_at hl 0 rfl) ?_
    refine lv_iload_n hx hb d_D_in_6 rfl (lv_at hl 2 rfl) ?_
    refine lv_icmp_gt (tgt := 14) hx hb d_D_in_7 (by decide) (fun c9 => ?_) (fun c9 => ?_)
    · replace hm := if_t c9 hm
      refine lv_iconst (v := 0) hx hb d_D_in_14 (by decide) ?_
      cases hm
      exact W.zret hx hb hr (by decide) (fun t ht hW => ⟨_, rfl, rfl, ht⟩) (fun _ h => nomatch h) d_D_in_15
    · replace hm := if_f c9 hm
      refine lv_iconst (v := 1) hx hb d_D_in_10 (by decide) ?_
      refine lv_goto (tgt := 15) hx hb d_D_in_11 (by decide) ?_
      cases hm
      exact W.zret hx hb hr (by decide) (fun t ht hW => ⟨_, rfl, rfl, ht⟩) (fun _ h => nomatch h) d_D_in_15

def w_D_areSizes : List Cond := .code y_D_areSizes b_D_areSizes 4 (some .boolean) :: W0
theorem q_D_areSizes : y_D_areSizes.cls = R_D ∧ y_D_areSizes.cls ≠ "java/lang/invoke/MethodHandle" ∧ y_D_areSizes.cls ≠ "java/lang/invoke/VarHandle" ∧ (parseMethodDescriptor y_D_areSizes.desc).map (fun d => d.parameters.length) = some 4 := by decide +kernel
def m_D_areSizes (x0 : Int32) (x1 : Int32) (x2 : Int32) (x3 : Int32) : Option Int32 :=
  ((m_D_in x0 1 1000).bind fun r1 =>
  (if r1 = 0 then
    some 0
   else
    ((m_D_in x1 1 1000).bind fun r2 =>
      (if r2 = 0 then
        some 0
       else
        ((m_D_in x2 1 1000).bind fun r3 =>
          (if r3 = 0 then
            some 0
           else
            ((m_D_in x3 0 7).bind fun r4 =>
              (if r4 = 0 then
                some 0
               else
                some 1))))))))
set_option maxHeartbeats 4000000 in
set_option maxRecDepth 100000 in
theorem c_D_areSizes (l : Launch) (dC : Nat → ClassId) (dI : Nat → Nat → Nat) (cI : ClassId)  (x0 : Int32) (x1 : Int32) (x2 : Int32) (x3 : Int32) (N : Nat) (res : Int32) (hm : m_D_areSizes x0 x1 x2 x3 = some res) : Met l y_D_areSizes w_D_areSizes ({ frames := 1, cells := 0, slots := 0, locals := 22 } : Room) (va_Pc [.int x0, .int x1, .int x2, .int x3] (fun _ => True)) (vp_Si (fun x => res = x)) 0 0 (fun _ => False) := by
  unfold m_D_areSizes at hm
  refine Met.ofW (cc := b_D_areSizes) (maxL := 4) (ret := (some .boolean)) (by decide) rfl ?_
  intro p e s m args below meth c s₁ B hml hv
  obtain ⟨rfl, -⟩ := hv
  have hx := B.exec
  have hb := B.bytes
  have hr := B.returns
  have hts := atoms_spec (ws := w_D_areSizes) B.pre
  have hown : s.vm.findClass R_D = some m.cls := findClass_of_methodNamed B.named
  have hlocks := B.notSynchronized
  have hl := lv_entry ([.int x0, .int x1, .int x2, .int x3]) (n := 4) (Nat.le_of_ble_eq_true rfl)
  rw [lg_entry_eq]
  generalize (lg_sl ([.int x0, .int x1, .int x2, .int x3]) ++ List.replicate (4 - (lg_sl ([.int x0, .int x1, .int x2, .int x3])).length) Slot.unset).toArray = ls at hl ⊢
  have hl : lv_has ls 4 [(0, .int x0), (1, .int x1), (2, .int x2), (3, .int x3)] := hl
  refine lv_iload_n hx hb d_D_areSizes_0 rfl (lv_at hl 0 rfl) ?_
  refine lv_iconst (v := 1) hx hb d_D_areSizes_1 (by decide) ?_
  refine lv_sipush (v := 1000) hx hb d_D_areSizes_2 (by decide) ?_
  obtain ⟨r1, hc, hm⟩ := bd hm
  try dsimp only at hm
  refine vp_callSi (W.runS (As := [.int x0, .int 1, .int 1000]) (rest := []) ⟨hx, hb, hml, hown, hts⟩ (c_D_in l dC dI cI x0 1 1000 N r1 hc) (cwS 3 hts (gS (w0 667 rfl) (w0 668 rfl) (w0 33 rfl) (w0 669 rfl)) rfl rfl rfl q_D_in ⟨Nat.le_of_ble_eq_true rfl, Nat.le_of_ble_eq_true rfl⟩) ro_pre0 rfl rfl hl.1 rfl (lv_room (Nat.le_of_ble_eq_true rfl)) d_D_areSizes_5 ⟨Nat.le_of_ble_eq_true rfl, Nat.le_of_ble_eq_true rfl⟩) (fun r9 hr9 => ?_)
  subst hr9
  refine lv_if_eq (tgt := 47) hx hb d_D_areSizes_8 (by decide) (fun c9 => ?_) (fun c9 => ?_)
  · replace hm := if_t c9 hm
    refine lv_iconst (v := 0) hx hb d_D_areSizes_47 (by decide) ?_
    cases hm
    exact W.zret hx hb hr (by decide) (fun t ht hW => ⟨_, rfl, rfl, ht⟩) (fun _ h => nomatch h) d_D_areSizes_48
  · replace hm := if_f c9 hm
    refine lv_iload_n hx hb d_D_areSizes_11 rfl (lv_at hl 1 rfl) ?_
    refine lv_iconst (v := 1) hx hb d_D_areSizes_12 (by decide) ?_
    refine lv_sipush (v := 1000) hx hb d_D_areSizes_13 (by decide) ?_
    obtain ⟨r2, hc, hm⟩ := bd hm
    try dsimp only at hm
    refine vp_callSi (W.runS (As := [.int x1, .int 1, .int 1000]) (rest := []) ⟨hx, hb, hml, hown, hts⟩ (c_D_in l dC dI cI x1 1 1000 N r2 hc) (cwS 3 hts (gS (w0 667 rfl) (w0 668 rfl) (w0 33 rfl) (w0 669 rfl)) rfl rfl rfl q_D_in ⟨Nat.le_of_ble_eq_true rfl, Nat.le_of_ble_eq_true rfl⟩) ro_pre0 rfl rfl hl.1 rfl (lv_room (Nat.le_of_ble_eq_true rfl)) d_D_areSizes_16 ⟨Nat.le_of_ble_eq_true rfl, Nat.le_of_ble_eq_true rfl⟩) (fun r9 hr9 => ?_)
    subst hr9
    refine lv_if_eq (tgt := 47) hx hb d_D_areSizes_19 (by decide) (fun c9 => ?_) (fun c9 => ?_)
    · replace hm := if_t c9 hm
      refine lv_iconst (v := 0) hx hb d_D_areSizes_47 (by decide) ?_
      cases hm
      exact W.zret hx hb hr (by decide) (fun t ht hW => ⟨_, rfl, rfl, ht⟩) (fun _ h => nomatch h) d_D_areSizes_48
    · replace hm := if_f c9 hm
      refine lv_iload_n hx hb d_D_areSizes_22 rfl (lv_at hl 2 rfl) ?_
      refine lv_iconst (v := 1) hx hb d_D_areSizes_23 (by decide) ?_
      refine lv_sipush (v := 1000) hx hb d_D_areSizes_24 (by decide) ?_
      obtain ⟨r3, hc, hm⟩ := bd hm
      try dsimp only at hm
      refine vp_callSi (W.runS (As := [.int x2, .int 1, .int 1000]) (rest := []) ⟨hx, hb, hml, hown, hts⟩ (c_D_in l dC dI cI x2 1 1000 N r3 hc) (cwS 3 hts (gS (w0 667 rfl) (w0 668 rfl) (w0 33 rfl) (w0 669 rfl)) rfl rfl rfl q_D_in ⟨Nat.le_of_ble_eq_true rfl, Nat.le_of_ble_eq_true rfl⟩) ro_pre0 rfl rfl hl.1 rfl (lv_room (Nat.le_of_ble_eq_true rfl)) d_D_areSizes_27 ⟨Nat.le_of_ble_eq_true rfl, Nat.le_of_ble_eq_true rfl⟩) (fun r9 hr9 => ?_)
      subst hr9
      refine lv_if_eq (tgt := 47) hx hb d_D_areSizes_30 (by decide) (fun c9 => ?_) (fun c9 => ?_)
      · replace hm := if_t c9 hm
        refine lv_iconst (v := 0) hx hb d_D_areSizes_47 (by decide) ?_
        cases hm
        exact W.zret hx hb hr (by decide) (fun t ht hW => ⟨_, rfl, rfl, ht⟩) (fun _ h => nomatch h) d_D_areSizes_48
      · replace hm := if_f c9 hm
        refine lv_iload_n hx hb d_D_areSizes_33 rfl (lv_at hl 3 rfl) ?_
        refine lv_iconst (v := 0) hx hb d_D_areSizes_34 (by decide) ?_
        refine lv_bipush (v := 7) hx hb d_D_areSizes_35 (by decide) ?_
        obtain ⟨r4, hc, hm⟩ := bd hm
        try dsimp only at hm
        refine vp_callSi (W.runS (As := [.int x3, .int 0, .int 7]) (rest := []) ⟨hx, hb, hml, hown, hts⟩ (c_D_in l dC dI cI x3 0 7 N r4 hc) (cwS 3 hts (gS (w0 667 rfl) (w0 668 rfl) (w0 33 rfl) (w0 669 rfl)) rfl rfl rfl q_D_in ⟨Nat.le_of_ble_eq_true rfl, Nat.le_of_ble_eq_true rfl⟩) ro_pre0 rfl rfl hl.1 rfl (lv_room (Nat.le_of_ble_eq_true rfl)) d_D_areSizes_37 ⟨Nat.le_of_ble_eq_true rfl, Nat.le_of_ble_eq_true rfl⟩) (fun r9 hr9 => ?_)
        subst hr9
        refine lv_if_eq (tgt := 47) hx hb d_D_areSizes_40 (by decide) (fun c9 => ?_) (fun c9 => ?_)
        · replace hm := if_t c9 hm
          refine lv_iconst (v := 0) hx hb d_D_areSizes_47 (by decide) ?_
          cases hm
          exact W.zret hx hb hr (by decide) (fun t ht hW => ⟨_, rfl, rfl, ht⟩) (fun _ h => nomatch h) d_D_areSizes_48
        · replace hm := if_f c9 hm
          refine lv_iconst (v := 1) hx hb d_D_areSizes_43 (by decide) ?_
          refine lv_goto (tgt := 48) hx hb d_D_areSizes_44 (by decide) ?_
          cases hm
          exact W.zret hx hb hr (by decide) (fun t ht hW => ⟨_, rfl, rfl, ht⟩) (fun _ h => nomatch h) d_D_areSizes_48

def w_D_thrown : List Cond := .code y_D_thrown b_D_thrown 1 (some .int) :: W0
theorem q_D_thrown : y_D_thrown.cls = R_D ∧ y_D_thrown.cls ≠ "java/lang/invoke/MethodHandle" ∧ y_D_thrown.cls ≠ "java/lang/invoke/VarHandle" ∧ (parseMethodDescriptor y_D_thrown.desc).map (fun d => d.parameters.length) = some 0 := by decide +kernel
def m_D_thrown (d_thrown : Int32) : Option Int32 :=
  some d_thrown
set_option maxHeartbeats 4000000 in
set_option maxRecDepth 100000 in
theorem c_D_thrown (l : Launch) (dC : Nat → ClassId) (dI : Nat → Nat → Nat) (cI cZ cJ : ClassId) (dq dq8 dq9 dq10 dq11 dq12 dq13 dq14 dq15 dq18 dq19 dq20 : Nat) (d_thrown : Int32) (d_today : Int32) (d_cut : Int32) (d_aging : Int32) (d_saleFrom : Int32) (d_pieces : Int32) (d_orders : Int32) (d_piece : Nat → Int32) (d_order : Nat → Int32) (d_came : Nat → Int32) (d_worth : Nat → Int32) (d_used : Nat → Int32) (d_usedBy : Nat → Int32) (d_reservedFor : Nat → Int32) (d_reservedTo : Nat → Int32) (d_ran : Int32) (d_sum : Int32) (d_pieceDual : Nat → Int32) (d_orderDual : Nat → Int32) (d_table : Nat → Int64)  (N : Nat) (res : Int32) (hm : m_D_thrown d_thrown = some res) : Met l y_D_thrown w_D_thrown ({ frames := 0, cells := 0, slots := 0, locals := 0 } : Room) (va_Pc [.ref dq] (fun U => va_P (dC, dI) classes [(dq, .inr (5, [.int d_thrown, .int d_today, .int d_cut, .int d_aging, .int d_saleFrom, .int d_pieces, .int d_orders, .ref dq8, .ref dq9, .ref dq10, .ref dq11, .ref dq12, .ref dq13, .ref dq14, .ref dq15, .int d_ran, .int d_sum, .ref dq18, .ref dq19, .ref dq20])), (dq8, .inl (cI, 40, .inl d_piece)), (dq9, .inl (cI, 40, .inl d_order)), (dq10, .inl (cI, 10, .inl d_came)), (dq11, .inl (cI, 100, .inl d_worth)), (dq12, .inl (cZ, 10, .inl d_used)), (dq13, .inl (cI, 10, .inl d_usedBy)), (dq14, .inl (cI, 10, .inl d_reservedFor)), (dq15, .inl (cI, 10, .inl d_reservedTo)), (dq18, .inl (cI, 10, .inl d_pieceDual)), (dq19, .inl (cI, 10, .inl d_orderDual)), (dq20, .inl (cJ, 11264, .inr (.inl d_table)))] U.heap ∧ va_K (dC, dI) classes [(cI, .int), (cZ, .boolean), (cJ, .long)] U ∧ nw U)) (vp_Si (fun x => res = x)) 0 0 (fun _ => False) := by
  unfold m_D_thrown at hm
  refine Met.ofW (cc := b_D_thrown) (maxL := 1) (ret := (some .int)) (by decide) rfl ?_
  intro p e s m args below meth c s₁ B hml hv
  obtain ⟨rfl, hP, hK, hN⟩ := hv
  have hx := B.exec
  have hb := B.bytes
  have hr := B.returns
  have hts := atoms_spec (ws := w_D_thrown) B.pre
  have hown : s.vm.findClass R_D = some m.cls := findClass_of_methodNamed B.named
  have hlocks := B.notSynchronized
  have hk0 := hts (.fieldLink R_D 49 "SurplusMatchModel" "thrown" "I") (List.mem_cons_of_mem _ (w0 593 rfl))
  have hk1 : ∀ w ∈ w_D, w ∈ w_D_thrown := fun w h => List.mem_cons_of_mem _ (i_D w h)
  have hl := lv_entry ([.ref dq]) (n := 1) (Nat.le_of_ble_eq_true rfl)
  rw [lg_entry_eq]
  generalize (lg_sl ([.ref dq]) ++ List.replicate (1 - (lg_sl ([.ref dq])).length) Slot.unset).toArray = ls at hl ⊢
  have hl : lv_has ls 1 [(0, .ref dq)] := hl
  refine lv_aload_n hx hb d_D_thrown_0 rfl (lv_at hl 0 rfl) ?_
  refine va_get (D := (dC, dI)) (ci := 5) (v := .int d_thrown) (C := R_D) (T := F_D) (N := 20) hx hb hts hk1 hown hK hP 0 rfl rfl 0 (by decide) hk0 (fun _ h9 => h9) rfl d_D_thrown_1 ?_
  cases hm
  exact W.iret hx hb hr (fun t ht hW => ⟨_, rfl, rfl, ht⟩) (fun _ h => nomatch h) d_D_thrown_4

def w_D_goes : List Cond := .code y_D_goes b_D_goes 5 (some .boolean) :: W0
theorem q_D_goes : y_D_goes.cls = R_D ∧ y_D_goes.cls ≠ "java/lang/invoke/MethodHandle" ∧ y_D_goes.cls ≠ "java/lang/invoke/VarHandle" ∧ (parseMethodDescriptor y_D_goes.desc).map (fun d => d.parameters.length) = some 4 := by decide +kernel
def m_D_goes (x1 : Int32) (x2 : Int32) (x3 : Int32) (x4 : Int32) : Option (Int32 × Int32) :=
  (if x1 = 0 then
  some (0, 1)
 else
  (if x2 = 0 then
    some (0, 2)
   else
    (if x3 = 0 then
      some (0, 3)
     else
      (if x4 = 0 then
        some (0, 4)
       else
        some (1, 0)))))
set_option maxHeartbeats 4000000 in
set_option maxRecDepth 100000 in
theorem c_D_goes (l : Launch) (dC : Nat → ClassId) (dI : Nat → Nat → Nat) (cI cZ cJ : ClassId) (dq dq8 dq9 dq10 dq11 dq12 dq13 dq14 dq15 dq18 dq19 dq20 : Nat) (sz : Nat) (d_thrown : Int32) (d_today : Int32) (d_cut : Int32) (d_aging : Int32) (d_saleFrom : Int32) (d_pieces : Int32) (d_orders : Int32) (d_piece : Nat → Int32) (d_order : Nat → Int32) (d_came : Nat → Int32) (d_worth : Nat → Int32) (d_used : Nat → Int32) (d_usedBy : Nat → Int32) (d_reservedFor : Nat → Int32) (d_reservedTo : Nat → Int32) (d_ran : Int32) (d_sum : Int32) (d_pieceDual : Nat → Int32) (d_orderDual : Nat → Int32) (d_table : Nat → Int64) (x1 : Int32) (x2 : Int32) (x3 : Int32) (x4 : Int32) (N : Nat) (res : Int32 × Int32) (hm : m_D_goes x1 x2 x3 x4 = some res) : Met l y_D_goes w_D_goes ({ frames := 0, cells := 0, slots := 0, locals := 0 } : Room) (va_Pc [.ref dq, .int x1, .int x2, .int x3, .int x4] (fun U => U.heap.size = sz ∧ va_P (dC, dI) classes [(dq, .inr (5, [.int d_thrown, .int d_today, .int d_cut, .int d_aging, .int d_saleFrom, .int d_pieces, .int d_orders, .ref dq8, .ref dq9, .ref dq10, .ref dq11, .ref dq12, .ref dq13, .ref dq14, .ref dq15, .int d_ran, .int d_sum, .ref dq18, .ref dq19, .ref dq20])), (dq8, .inl (cI, 40, .inl d_piece)), (dq9, .inl (cI, 40, .inl d_order)), (dq10, .inl (cI, 10, .inl d_came)), (dq11, .inl (cI, 100, .inl d_worth)), (dq12, .inl (cZ, 10, .inl d_used)), (dq13, .inl (cI, 10, .inl d_usedBy)), (dq14, .inl (cI, 10, .inl d_reservedFor)), (dq15, .inl (cI, 10, .inl d_reservedTo)), (dq18, .inl (cI, 10, .inl d_pieceDual)), (dq19, .inl (cI, 10, .inl d_orderDual)), (dq20, .inl (cJ, 11264, .inr (.inl d_table)))] U.heap ∧ va_K (dC, dI) classes [(cI, .int), (cZ, .boolean), (cJ, .long)] U ∧ va_D (fun _ => True) [(dq, .inr (5, [.int d_thrown, .int d_today, .int d_cut, .int d_aging, .int d_saleFrom, .int d_pieces, .int d_orders, .ref dq8, .ref dq9, .ref dq10, .ref dq11, .ref dq12, .ref dq13, .ref dq14, .ref dq15, .int d_ran, .int d_sum, .ref dq18, .ref dq19, .ref dq20])), (dq8, .inl (cI, 40, .inl d_piece)), (dq9, .inl (cI, 40, .inl d_order)), (dq10, .inl (cI, 10, .inl d_came)), (dq11, .inl (cI, 100, .inl d_worth)), (dq12, .inl (cZ, 10, .inl d_used)), (dq13, .inl (cI, 10, .inl d_usedBy)), (dq14, .inl (cI, 10, .inl d_reservedFor)), (dq15, .inl (cI, 10, .inl d_reservedTo)), (dq18, .inl (cI, 10, .inl d_pieceDual)), (dq19, .inl (cI, 10, .inl d_orderDual)), (dq20, .inl (cJ, 11264, .inr (.inl d_table)))] ∧ nw U)) (va_Qi (fun (x : Int32) (_ : Unit) => res.1 = x) (fun _ t => va_P (dC, dI) classes [(dq, .inr (5, [.int res.2, .int d_today, .int d_cut, .int d_aging, .int d_saleFrom, .int d_pieces, .int d_orders, .ref dq8, .ref dq9, .ref dq10, .ref dq11, .ref dq12, .ref dq13, .ref dq14, .ref dq15, .int d_ran, .int d_sum, .ref dq18, .ref dq19, .ref dq20])), (dq8, .inl (cI, 40, .inl d_piece)), (dq9, .inl (cI, 40, .inl d_order)), (dq10, .inl (cI, 10, .inl d_came)), (dq11, .inl (cI, 100, .inl d_worth)), (dq12, .inl (cZ, 10, .inl d_used)), (dq13, .inl (cI, 10, .inl d_usedBy)), (dq14, .inl (cI, 10, .inl d_reservedFor)), (dq15, .inl (cI, 10, .inl d_reservedTo)), (dq18, .inl (cI, 10, .inl d_pieceDual)), (dq19, .inl (cI, 10, .inl d_orderDual)), (dq20, .inl (cJ, 11264, .inr (.inl d_table)))] t.heap ∧ va_K (dC, dI) classes [(cI, .int), (cZ, .boolean), (cJ, .long)] t ∧ va_D (va_A [(dq, .inr (5, [.int d_thrown, .int d_today, .int d_cut, .int d_aging, .int d_saleFrom, .int d_pieces, .int d_orders, .ref dq8, .ref dq9, .ref dq10, .ref dq11, .ref dq12, .ref dq13, .ref dq14, .ref dq15, .int d_ran, .int d_sum, .ref dq18, .ref dq19, .ref dq20])), (dq8, .inl (cI, 40, .inl d_piece)), (dq9, .inl (cI, 40, .inl d_order)), (dq10, .inl (cI, 10, .inl d_came)), (dq11, .inl (cI, 100, .inl d_worth)), (dq12, .inl (cZ, 10, .inl d_used)), (dq13, .inl (cI, 10, .inl d_usedBy)), (dq14, .inl (cI, 10, .inl d_reservedFor)), (dq15, .inl (cI, 10, .inl d_reservedTo)), (dq18, .inl (cI, 10, .inl d_pieceDual)), (dq19, .inl (cI, 10, .inl d_orderDual)), (dq20, .inl (cJ, 11264, .inr (.inl d_table)))] sz) [(dq, .inr (5, [.int res.2, .int d_today, .int d_cut, .int d_aging, .int d_saleFrom, .int d_pieces, .int d_orders, .ref dq8, .ref dq9, .ref dq10, .ref dq11, .ref dq12, .ref dq13, .ref dq14, .ref dq15, .int d_ran, .int d_sum, .ref dq18, .ref dq19, .ref dq20])), (dq8, .inl (cI, 40, .inl d_piece)), (dq9, .inl (cI, 40, .inl d_order)), (dq10, .inl (cI, 10, .inl d_came)), (dq11, .inl (cI, 100, .inl d_worth)), (dq12, .inl (cZ, 10, .inl d_used)), (dq13, .inl (cI, 10, .inl d_usedBy)), (dq14, .inl (cI, 10, .inl d_reservedFor)), (dq15, .inl (cI, 10, .inl d_reservedTo)), (dq18, .inl (cI, 10, .inl d_pieceDual)), (dq19, .inl (cI, 10, .inl d_orderDual)), (dq20, .inl (cJ, 11264, .inr (.inl d_table)))]) (va_A [(dq, .inr (5, [.int d_thrown, .int d_today, .int d_cut, .int d_aging, .int d_saleFrom, .int d_pieces, .int d_orders, .ref dq8, .ref dq9, .ref dq10, .ref dq11, .ref dq12, .ref dq13, .ref dq14, .ref dq15, .int d_ran, .int d_sum, .ref dq18, .ref dq19, .ref dq20])), (dq8, .inl (cI, 40, .inl d_piece)), (dq9, .inl (cI, 40, .inl d_order)), (dq10, .inl (cI, 10, .inl d_came)), (dq11, .inl (cI, 100, .inl d_worth)), (dq12, .inl (cZ, 10, .inl d_used)), (dq13, .inl (cI, 10, .inl d_usedBy)), (dq14, .inl (cI, 10, .inl d_reservedFor)), (dq15, .inl (cI, 10, .inl d_reservedTo)), (dq18, .inl (cI, 10, .inl d_pieceDual)), (dq19, .inl (cI, 10, .inl d_orderDual)), (dq20, .inl (cJ, 11264, .inr (.inl d_table)))] sz)) 0 0 (va_A [(dq, .inr (5, [.int d_thrown, .int d_today, .int d_cut, .int d_aging, .int d_saleFrom, .int d_pieces, .int d_orders, .ref dq8, .ref dq9, .ref dq10, .ref dq11, .ref dq12, .ref dq13, .ref dq14, .ref dq15, .int d_ran, .int d_sum, .ref dq18, .ref dq19, .ref dq20])), (dq8, .inl (cI, 40, .inl d_piece)), (dq9, .inl (cI, 40, .inl d_order)), (dq10, .inl (cI, 10, .inl d_came)), (dq11, .inl (cI, 100, .inl d_worth)), (dq12, .inl (cZ, 10, .inl d_used)), (dq13, .inl (cI, 10, .inl d_usedBy)), (dq14, .inl (cI, 10, .inl d_reservedFor)), (dq15, .inl (cI, 10, .inl d_reservedTo)), (dq18, .inl (cI, 10, .inl d_pieceDual)), (dq19, .inl (cI, 10, .inl d_orderDual)), (dq20, .inl (cJ, 11264, .inr (.inl d_table)))] sz) := by
  unfold m_D_goes at hm
  refine Met.ofW (cc := b_D_goes) (maxL := 5) (ret := (some .boolean)) (by decide) rfl ?_
  intro p e s m args below meth c s₁ B hml hv
  obtain ⟨rfl, hsz, hP, hK, hD0, hN⟩ := hv
  have hx := B.exec
  have hb := B.bytes
  have hr := B.returns
  have hts := atoms_spec (ws := w_D_goes) B.pre
  have hown : s.vm.findClass R_D = some m.cls := findClass_of_methodNamed B.named
  have hlocks := B.notSynchronized
  subst hsz
  have hD := hD0.self (sz := s.heap.size)
  generalize hAe : va_A [(dq, .inr (5, [.int d_thrown, .int d_today, .int d_cut, .int d_aging, .int d_saleFrom, .int d_pieces, .int d_orders, .ref dq8, .ref dq9, .ref dq10, .ref dq11, .ref dq12, .ref dq13, .ref dq14, .ref dq15, .int d_ran, .int d_sum, .ref dq18, .ref dq19, .ref dq20])), (dq8, .inl (cI, 40, .inl d_piece)), (dq9, .inl (cI, 40, .inl d_order)), (dq10, .inl (cI, 10, .inl d_came)), (dq11, .inl (cI, 100, .inl d_worth)), (dq12, .inl (cZ, 10, .inl d_used)), (dq13, .inl (cI, 10, .inl d_usedBy)), (dq14, .inl (cI, 10, .inl d_reservedFor)), (dq15, .inl (cI, 10, .inl d_reservedTo)), (dq18, .inl (cI, 10, .inl d_pieceDual)), (dq19, .inl (cI, 10, .inl d_orderDual)), (dq20, .inl (cJ, 11264, .inr (.inl d_table)))] s.heap.size = A at hD ⊢
  have hA : ∀ q : Nat, s.heap.size ≤ q → A q := fun q h => by rw [← hAe]; exact Or.inr h
  have hS : va_S A s.heap s.heap [] := va_S.rf
  have hk0 := hts (.fieldLink R_D 49 "SurplusMatchModel" "thrown" "I") (List.mem_cons_of_mem _ (w0 593 rfl))
  have hk1 : ∀ w ∈ w_D, w ∈ w_D_goes := fun w h => List.mem_cons_of_mem _ (i_D w h)
  have hl := lv_entry ([.ref dq, .int x1, .int x2, .int x3, .int x4]) (n := 5) (Nat.le_of_ble_eq_true rfl)
  rw [lg_entry_eq]
  generalize (lg_sl ([.ref dq, .int x1, .int x2, .int x3, .int x4]) ++ List.replicate (5 - (lg_sl ([.ref dq, .int x1, .int x2, .int x3, .int x4])).length) Slot.unset).toArray = ls at hl ⊢
  have hl : lv_has ls 5 [(0, .ref dq), (1, .int x1), (2, .int x2), (3, .int x3), (4, .int x4)] := hl
  refine lv_aload_n hx hb d_D_goes_0 rfl (lv_at hl 0 rfl) ?_
  refine lv_iload_n hx hb d_D_goes_1 rfl (lv_at hl 1 rfl) ?_
  refine lv_if_ne (tgt := 9) hx hb d_D_goes_2 (by decide) (fun c9 => ?_) (fun c9 => ?_)
  · replace hm := if_f c9 hm
    refine lv_iload_n hx hb d_D_goes_9 rfl (lv_at hl 2 rfl) ?_
    refine lv_if_ne (tgt := 17) hx hb d_D_goes_10 (by decide) (fun c9 => ?_) (fun c9 => ?_)
    · replace hm := if_f c9 hm
      refine lv_iload_n hx hb d_D_goes_17 rfl (lv_at hl 3 rfl) ?_
      refine lv_if_ne (tgt := 25) hx hb d_D_goes_18 (by decide) (fun c9 => ?_) (fun c9 => ?_)
      · replace hm := if_f c9 hm
        refine lv_iload hx hb d_D_goes_25 (lv_at hl 4 rfl) ?_
        refine lv_if_ne (tgt := 34) hx hb d_D_goes_27 (by decide) (fun c9 => ?_) (fun c9 => ?_)
        · replace hm := if_f c9 hm
          refine lv_iconst (v := 0) hx hb d_D_goes_34 (by decide) ?_
          refine va_put (D := (dC, dI)) (ci := 5) (v := .int 0) (ty := .int) (C := R_D) (T := F_D) (N := 20) hx hb hts hk1 t_D t_D_ok n_D hown hK hP hD hS 0 rfl rfl 0 (by decide) hk0 (fun _ h9 => h9) rfl (by decide +kernel) rfl rfl (Nat.le_of_ble_eq_true rfl) d_D_goes_35 (fun H locs hP hD hS => ?_)
          have hP : va_P (dC, dI) classes [(dq, .inr (5, [.int 0, .int d_today, .int d_cut, .int d_aging, .int d_saleFrom, .int d_pieces, .int d_orders, .ref dq8, .ref dq9, .ref dq10, .ref dq11, .ref dq12, .ref dq13, .ref dq14, .ref dq15, .int d_ran, .int d_sum, .ref dq18, .ref dq19, .ref dq20])), (dq8, .inl (cI, 40, .inl d_piece)), (dq9, .inl (cI, 40, .inl d_order)), (dq10, .inl (cI, 10, .inl d_came)), (dq11, .inl (cI, 100, .inl d_worth)), (dq12, .inl (cZ, 10, .inl d_used)), (dq13, .inl (cI, 10, .inl d_usedBy)), (dq14, .inl (cI, 10, .inl d_reservedFor)), (dq15, .inl (cI, 10, .inl d_reservedTo)), (dq18, .inl (cI, 10, .inl d_pieceDual)), (dq19, .inl (cI, 10, .inl d_orderDual)), (dq20, .inl (cJ, 11264, .inr (.inl d_table)))] H := hP
          have hD : va_D A [(dq, .inr (5, [.int 0, .int d_today, .int d_cut, .int d_aging, .int d_saleFrom, .int d_pieces, .int d_orders, .ref dq8, .ref dq9, .ref dq10, .ref dq11, .ref dq12, .ref dq13, .ref dq14, .ref dq15, .int d_ran, .int d_sum, .ref dq18, .ref dq19, .ref dq20])), (dq8, .inl (cI, 40, .inl d_piece)), (dq9, .inl (cI, 40, .inl d_order)), (dq10, .inl (cI, 10, .inl d_came)), (dq11, .inl (cI, 100, .inl d_worth)), (dq12, .inl (cZ, 10, .inl d_used)), (dq13, .inl (cI, 10, .inl d_usedBy)), (dq14, .inl (cI, 10, .inl d_reservedFor)), (dq15, .inl (cI, 10, .inl d_reservedTo)), (dq18, .inl (cI, 10, .inl d_pieceDual)), (dq19, .inl (cI, 10, .inl d_orderDual)), (dq20, .inl (cJ, 11264, .inr (.inl d_table)))] := hD
          refine lv_aload_n hx hb d_D_goes_38 rfl (lv_at hl 0 rfl) ?_
          refine va_get (D := (dC, dI)) (ci := 5) (v := .int 0) (C := R_D) (T := F_D) (N := 20) hx hb hts hk1 hown hK hP 0 rfl rfl 0 (by decide) hk0 (fun _ h9 => h9) rfl d_D_goes_39 ?_
          refine lv_if_ne (tgt := 49) hx hb d_D_goes_42 (by decide) (fun c9 => absurd c9 (by decide)) (fun c9 => ?_)
          clear c9
          refine lv_iconst (v := 1) hx hb d_D_goes_45 (by decide) ?_
          refine lv_goto (tgt := 50) hx hb d_D_goes_46 (by decide) ?_
          cases hm
          refine W.widen (k := 0) (n := 0) (Nat.le_of_ble_eq_true rfl) (Nat.le_of_ble_eq_true rfl) ?_
          exact W.zret hx hb hr (by decide) (fun t ht hW => ⟨⟨_, (), rfl, rfl, by rw [ht]; exact hP, va_K.moved hW.alike hK, hD⟩, hS.F ht⟩) hS.2.2 d_D_goes_50
        · replace hm := if_t c9 hm
          refine lv_iconst (v := 4) hx hb d_D_goes_30 (by decide) ?_
          refine lv_goto (tgt := 35) hx hb d_D_goes_31 (by decide) ?_
          refine va_put (D := (dC, dI)) (ci := 5) (v := .int 4) (ty := .int) (C := R_D) (T := F_D) (N := 20) hx hb hts hk1 t_D t_D_ok n_D hown hK hP hD hS 0 rfl rfl 0 (by decide) hk0 (fun _ h9 => h9) rfl (by decide +kernel) rfl rfl (Nat.le_of_ble_eq_true rfl) d_D_goes_35 (fun H locs hP hD hS => ?_)
          have hP : va_P (dC, dI) classes [(dq, .inr (5, [.int 4, .int d_today, .int d_cut, .int d_aging, .int d_saleFrom, .int d_pieces, .int d_orders, .ref dq8, .ref dq9, .ref dq10, .ref dq11, .ref dq12, .ref dq13, .ref dq14, .ref dq15, .int d_ran, .int d_sum, .ref dq18, .ref dq19, .ref dq20])), (dq8, .inl (cI, 40, .inl d_piece)), (dq9, .inl (cI, 40, .inl d_order)), (dq10, .inl (cI, 10, .inl d_came)), (dq11, .inl (cI, 100, .inl d_worth)), (dq12, .inl (cZ, 10, .inl d_used)), (dq13, .inl (cI, 10, .inl d_usedBy)), (dq14, .inl (cI, 10, .inl d_reservedFor)), (dq15, .inl (cI, 10, .inl d_reservedTo)), (dq18, .inl (cI, 10, .inl d_pieceDual)), (dq19, .inl (cI, 10, .inl d_orderDual)), (dq20, .inl (cJ, 11264, .inr (.inl d_table)))] H := hP
          have hD : va_D A [(dq, .inr (5, [.int 4, .int d_today, .int d_cut, .int d_aging, .int d_saleFrom, .int d_pieces, .int d_orders, .ref dq8, .ref dq9, .ref dq10, .ref dq11, .ref dq12, .ref dq13, .ref dq14, .ref dq15, .int d_ran, .int d_sum, .ref dq18, .ref dq19, .ref dq20])), (dq8, .inl (cI, 40, .inl d_piece)), (dq9, .inl (cI, 40, .inl d_order)), (dq10, .inl (cI, 10, .inl d_came)), (dq11, .inl (cI, 100, .inl d_worth)), (dq12, .inl (cZ, 10, .inl d_used)), (dq13, .inl (cI, 10, .inl d_usedBy)), (dq14, .inl (cI, 10, .inl d_reservedFor)), (dq15, .inl (cI, 10, .inl d_reservedTo)), (dq18, .inl (cI, 10, .inl d_pieceDual)), (dq19, .inl (cI, 10, .inl d_orderDual)), (dq20, .inl (cJ, 11264, .inr (.inl d_table)))] := hD
          refine lv_aload_n hx hb d_D_goes_38 rfl (lv_at hl 0 rfl) ?_
          refine va_get (D := (dC, dI)) (ci := 5) (v := .int 4) (C := R_D) (T := F_D) (N := 20) hx hb hts hk1 hown hK hP 0 rfl rfl 0 (by decide) hk0 (fun _ h9 => h9) rfl d_D_goes_39 ?_
          refine lv_if_ne (tgt := 49) hx hb d_D_goes_42 (by decide) (fun c9 => ?_) (fun c9 => absurd c9 (by decide))
          clear c9
          refine lv_iconst (v := 0) hx hb d_D_goes_49 (by decide) ?_
          cases hm
          refine W.widen (k := 0) (n := 0) (Nat.le_of_ble_eq_true rfl) (Nat.le_of_ble_eq_true rfl) ?_
          exact W.zret hx hb hr (by decide) (fun t ht hW => ⟨⟨_, (), rfl, rfl, by rw [ht]; exact hP, va_K.moved hW.alike hK, hD⟩, hS.F ht⟩) hS.2.2 d_D_goes_50
      · replace hm := if_t c9 hm
        refine lv_iconst (v := 3) hx hb d_D_goes_21 (by decide) ?_
        refine lv_goto (tgt := 35) hx hb d_D_goes_22 (by decide) ?_
        refine va_put (D := (dC, dI)) (ci := 5) (v := .int 3) (ty := .int) (C := R_D) (T := F_D) (N := 20) hx hb hts hk1 t_D t_D_ok n_D hown hK hP hD hS 0 rfl rfl 0 (by decide) hk0 (fun _ h9 => h9) rfl (by decide +kernel) rfl rfl (Nat.le_of_ble_eq_true rfl) d_D_goes_35 (fun H locs hP hD hS => ?_)
        have hP : va_P (dC, dI) classes [(dq, .inr (5, [.int 3, .int d_today, .int d_cut, .int d_aging, .int d_saleFrom, .int d_pieces, .int d_orders, .ref dq8, .ref dq9, .ref dq10, .ref dq11, .ref dq12, .ref dq13, .ref dq14, .ref dq15, .int d_ran, .int d_sum, .ref dq18, .ref dq19, .ref dq20])), (dq8, .inl (cI, 40, .inl d_piece)), (dq9, .inl (cI, 40, .inl d_order)), (dq10, .inl (cI, 10, .inl d_came)), (dq11, .inl (cI, 100, .inl d_worth)), (dq12, .inl (cZ, 10, .inl d_used)), (dq13, .inl (cI, 10, .inl d_usedBy)), (dq14, .inl (cI, 10, .inl d_reservedFor)), (dq15, .inl (cI, 10, .inl d_reservedTo)), (dq18, .inl (cI, 10, .inl d_pieceDual)), (dq19, .inl (cI, 10, .inl d_orderDual)), (dq20, .inl (cJ, 11264, .inr (.inl d_table)))] H := hP
        have hD : va_D A [(dq, .inr (5, [.int 3, .int d_today, .int d_cut, .int d_aging, .int d_saleFrom, .int d_pieces, .int d_orders, .ref dq8, .ref dq9, .ref dq10, .ref dq11, .ref dq12, .ref dq13, .ref dq14, .ref dq15, .int d_ran, .int d_sum, .ref dq18, .ref dq19, .ref dq20])), (dq8, .inl (cI, 40, .inl d_piece)), (dq9, .inl (cI, 40, .inl d_order)), (dq10, .inl (cI, 10, .inl d_came)), (dq11, .inl (cI, 100, .inl d_worth)), (dq12, .inl (cZ, 10, .inl d_used)), (dq13, .inl (cI, 10, .inl d_usedBy)), (dq14, .inl (cI, 10, .inl d_reservedFor)), (dq15, .inl (cI, 10, .inl d_reservedTo)), (dq18, .inl (cI, 10, .inl d_pieceDual)), (dq19, .inl (cI, 10, .inl d_orderDual)), (dq20, .inl (cJ, 11264, .inr (.inl d_table)))] := hD
        refine lv_aload_n hx hb d_D_goes_38 rfl (lv_at hl 0 rfl) ?_
        refine va_get (D := (dC, dI)) (ci := 5) (v := .int 3) (C := R_D) (T := F_D) (N := 20) hx hb hts hk1 hown hK hP 0 rfl rfl 0 (by decide) hk0 (fun _ h9 => h9) rfl d_D_goes_39 ?_
        refine lv_if_ne (tgt := 49) hx hb d_D_goes_42 (by decide) (fun c9 => ?_) (fun c9 => absurd c9 (by decide))
        clear c9
        refine lv_iconst (v := 0) hx hb d_D_goes_49 (by decide) ?_
        cases hm
        refine W.widen (k := 0) (n := 0) (Nat.le_of_ble_eq_true rfl) (Nat.le_of_ble_eq_true rfl) ?_
        exact W.zret hx hb hr (by decide) (fun t ht hW => ⟨⟨_, (), rfl, rfl, by rw [ht]; exact hP, va_K.moved hW.alike hK, hD⟩, hS.F ht⟩) hS.2.2 d_D_goes_50
    · replace hm := if_t c9 hm
      refine lv_iconst (v := 2) hx hb d_D_goes_13 (by decide) ?_
      refine lv_goto (tgt := 35) hx hb d_D_goes_14 (by decide) ?_
      refine va_put (D := (dC, dI)) (ci := 5) (v := .int 2) (ty := .int) (C := R_D) (T := F_D) (N := 20) hx hb hts hk1 t_D t_D_ok n_D hown hK hP hD hS 0 rfl rfl 0 (by decide) hk0 (fun _ h9 => h9) rfl (by decide +kernel) rfl rfl (Nat.le_of_ble_eq_true rfl) d_D_goes_35 (fun H locs hP hD hS => ?_)
      have hP : va_P (dC, dI) classes [(dq, .inr (5, [.int 2, .int d_today, .int d_cut, .int d_aging, .int d_saleFrom, .int d_pieces, .int d_orders, .ref dq8, .ref dq9, .ref dq10, .ref dq11, .ref dq12, .ref dq13, .ref dq14, .ref dq15, .int d_ran, .int d_sum, .ref dq18, .ref dq19, .ref dq20])), (dq8, .inl (cI, 40, .inl d_piece)), (dq9, .inl (cI, 40, .inl d_order)), (dq10, .inl (cI, 10, .inl d_came)), (dq11, .inl (cI, 100, .inl d_worth)), (dq12, .inl (cZ, 10, .inl d_used)), (dq13, .inl (cI, 10, .inl d_usedBy)), (dq14, .inl (cI, 10, .inl d_reservedFor)), (dq15, .inl (cI, 10, .inl d_reservedTo)), (dq18, .inl (cI, 10, .inl d_pieceDual)), (dq19, .inl (cI, 10, .inl d_orderDual)), (dq20, .inl (cJ, 11264, .inr (.inl d_table)))] H := hP
      have hD : va_D A [(dq, .inr (5, [.int 2, .int d_today, .int d_cut, .int d_aging, .int d_saleFrom, .int d_pieces, .int d_orders, .ref dq8, .ref dq9, .ref dq10, .ref dq11, .ref dq12, .ref dq13, .ref dq14, .ref dq15, .int d_ran, .int d_sum, .ref dq18, .ref dq19, .ref dq20])), (dq8, .inl (cI, 40, .inl d_piece)), (dq9, .inl (cI, 40, .inl d_order)), (dq10, .inl (cI, 10, .inl d_came)), (dq11, .inl (cI, 100, .inl d_worth)), (dq12, .inl (cZ, 10, .inl d_used)), (dq13, .inl (cI, 10, .inl d_usedBy)), (dq14, .inl (cI, 10, .inl d_reservedFor)), (dq15, .inl (cI, 10, .inl d_reservedTo)), (dq18, .inl (cI, 10, .inl d_pieceDual)), (dq19, .inl (cI, 10, .inl d_orderDual)), (dq20, .inl (cJ, 11264, .inr (.inl d_table)))] := hD
      refine lv_aload_n hx hb d_D_goes_38 rfl (lv_at hl 0 rfl) ?_
      refine va_get (D := (dC, dI)) (ci := 5) (v := .int 2) (C := R_D) (T := F_D) (N := 20) hx hb hts hk1 hown hK hP 0 rfl rfl 0 (by decide) hk0 (fun _ h9 => h9) rfl d_D_goes_39 ?_
      refine lv_if_ne (tgt := 49) hx hb d_D_goes_42 (by decide) (fun c9 => ?_) (fun c9 => absurd c9 (by decide))
      clear c9
      refine lv_iconst (v := 0) hx hb d_D_goes_49 (by decide) ?_
      cases hm
      refine W.widen (k := 0) (n := 0) (Nat.le_of_ble_eq_true rfl) (Nat.le_of_ble_eq_true rfl) ?_
      exact W.zret hx hb hr (by decide) (fun t ht hW => ⟨⟨_, (), rfl, rfl, by rw [ht]; exact hP, va_K.moved hW.alike hK, hD⟩, hS.F ht⟩) hS.2.2 d_D_goes_50
  · replace hm := if_t c9 hm
    refine lv_iconst (v := 1) hx hb d_D_goes_5 (by decide) ?_
    refine lv_goto (tgt := 35) hx hb d_D_goes_6 (by decide) ?_
    refine va_put (D := (dC, dI)) (ci := 5) (v := .int 1) (ty := .int) (C := R_D) (T := F_D) (N := 20) hx hb hts hk1 t_D t_D_ok n_D hown hK hP hD hS 0 rfl rfl 0 (by decide) hk0 (fun _ h9 => h9) rfl (by decide +kernel) rfl rfl (Nat.le_of_ble_eq_true rfl) d_D_goes_35 (fun H locs hP hD hS => ?_)
    have hP : va_P (dC, dI) classes [(dq, .inr (5, [.int 1, .int d_today, .int d_cut, .int d_aging, .int d_saleFrom, .int d_pieces, .int d_orders, .ref dq8, .ref dq9, .ref dq10, .ref dq11, .ref dq12, .ref dq13, .ref dq14, .ref dq15, .int d_ran, .int d_sum, .ref dq18, .ref dq19, .ref dq20])), (dq8, .inl (cI, 40, .inl d_piece)), (dq9, .inl (cI, 40, .inl d_order)), (dq10, .inl (cI, 10, .inl d_came)), (dq11, .inl (cI, 100, .inl d_worth)), (dq12, .inl (cZ, 10, .inl d_used)), (dq13, .inl (cI, 10, .inl d_usedBy)), (dq14, .inl (cI, 10, .inl d_reservedFor)), (dq15, .inl (cI, 10, .inl d_reservedTo)), (dq18, .inl (cI, 10, .inl d_pieceDual)), (dq19, .inl (cI, 10, .inl d_orderDual)), (dq20, .inl (cJ, 11264, .inr (.inl d_table)))] H := hP
    have hD : va_D A [(dq, .inr (5, [.int 1, .int d_today, .int d_cut, .int d_aging, .int d_saleFrom, .int d_pieces, .int d_orders, .ref dq8, .ref dq9, .ref dq10, .ref dq11, .ref dq12, .ref dq13, .ref dq14, .ref dq15, .int d_ran, .int d_sum, .ref dq18, .ref dq19, .ref dq20])), (dq8, .inl (cI, 40, .inl d_piece)), (dq9, .inl (cI, 40, .inl d_order)), (dq10, .inl (cI, 10, .inl d_came)), (dq11, .inl (cI, 100, .inl d_worth)), (dq12, .inl (cZ, 10, .inl d_used)), (dq13, .inl (cI, 10, .inl d_usedBy)), (dq14, .inl (cI, 10, .inl d_reservedFor)), (dq15, .inl (cI, 10, .inl d_reservedTo)), (dq18, .inl (cI, 10, .inl d_pieceDual)), (dq19, .inl (cI, 10, .inl d_orderDual)), (dq20, .inl (cJ, 11264, .inr (.inl d_table)))] := hD
    refine lv_aload_n hx hb d_D_goes_38 rfl (lv_at hl 0 rfl) ?_
    refine va_get (D := (dC, dI)) (ci := 5) (v := .int 1) (C := R_D) (T := F_D) (N := 20) hx hb hts hk1 hown hK hP 0 rfl rfl 0 (by decide) hk0 (fun _ h9 => h9) rfl d_D_goes_39 ?_
    refine lv_if_ne (tgt := 49) hx hb d_D_goes_42 (by decide) (fun c9 => ?_) (fun c9 => absurd c9 (by decide))
    clear c9
    refine lv_iconst (v := 0) hx hb d_D_goes_49 (by decide) ?_
    cases hm
    refine W.widen (k := 0) (n := 0) (Nat.le_of_ble_eq_true rfl) (Nat.le_of_ble_eq_true rfl) ?_
    exact W.zret hx hb hr (by decide) (fun t ht hW => ⟨⟨_, (), rfl, rfl, by rw [ht]; exact hP, va_K.moved hW.alike hK, hD⟩, hS.F ht⟩) hS.2.2 d_D_goes_50

def w_D_isPiece : List Cond := .code y_D_isPiece b_D_isPiece 2 (some .boolean) :: W0
theorem q_D_isPiece : y_D_isPiece.cls = R_D ∧ y_D_isPiece.cls ≠ "java/lang/invoke/MethodHandle" ∧ y_D_isPiece.cls ≠ "java/lang/invoke/VarHandle" ∧ (parseMethodDescriptor y_D_isPiece.desc).map (fun d => d.parameters.length) = some 1 := by decide +kernel
def m_D_isPiece (d_pieces : Int32) (x1 : Int32) : Option Int32 :=
  ((m_D_in x1 0 (d_pieces - 1)).bind fun r1 =>
  (if ¬ (r1 &&& 1) = r1 then none else some r1))
set_option maxHeartbeats 4000000 in
set_option maxRecDepth 100000 in
theorem c_D_isPiece (l : Launch) (dC : Nat → ClassId) (dI : Nat → Nat → Nat) (cI cZ cJ : ClassId) (dq dq8 dq9 dq10 dq11 dq12 dq13 dq14 dq15 dq18 dq19 dq20 : Nat) (d_thrown : Int32) (d_today : Int32) (d_cut : Int32) (d_aging : Int32) (d_saleFrom : Int32) (d_pieces : Int32) (d_orders : Int32) (d_piece : Nat → Int32) (d_order : Nat → Int32) (d_came : Nat → Int32) (d_worth : Nat → Int32) (d_used : Nat → Int32) (d_usedBy : Nat → Int32) (d_reservedFor : Nat → Int32) (d_reservedTo : Nat → Int32) (d_ran : Int32) (d_sum : Int32) (d_pieceDual : Nat → Int32) (d_orderDual : Nat → Int32) (d_table : Nat → Int64) (x1 : Int32) (N : Nat) (res : Int32) (hm : m_D_isPiece d_pieces x1 = some res) : Met l y_D_isPiece w_D_isPiece ({ frames := 1, cells := 0, slots := 0, locals := 22 } : Room) (va_Pc [.ref dq, .int x1] (fun U => va_P (dC, dI) classes [(dq, .inr (5, [.int d_thrown, .int d_today, .int d_cut, .int d_aging, .int d_saleFrom, .int d_pieces, .int d_orders, .ref dq8, .ref dq9, .ref dq10, .ref dq11, .ref dq12, .ref dq13, .ref dq14, .ref dq15, .int d_ran, .int d_sum, .ref dq18, .ref dq19, .ref dq20])), (dq8, .inl (cI, 40, .inl d_piece)), (dq9, .inl (cI, 40, .inl d_order)), (dq10, .inl (cI, 10, .inl d_came)), (dq11, .inl (cI, 100, .inl d_worth)), (dq12, .inl (cZ, 10, .inl d_used)), (dq13, .inl (cI, 10, .inl d_usedBy)), (dq14, .inl (cI, 10, .inl d_reservedFor)), (dq15, .inl (cI, 10, .inl d_reservedTo)), (dq18, .inl (cI, 10, .inl d_pieceDual)), (dq19, .inl (cI, 10, .inl d_orderDual)), (dq20, .inl (cJ, 11264, .inr (.inl d_table)))] U.heap ∧ va_K (dC, dI) classes [(cI, .int), (cZ, .boolean), (cJ, .long)] U ∧ nw U)) (vp_Si (fun x => res = x)) 0 0 (fun _ => False) := by
  unfold m_D_isPiece at hm
  refine Met.ofW (cc := b_D_isPiece) (maxL := 2) (ret := (some .boolean)) (by decide) rfl ?_
  intro p e s m args below meth c s₁ B hml hv
  obtain ⟨rfl, hP, hK, hN⟩ := hv
  have hx := B.exec
  have hb := B.bytes
  have hr := B.returns
  have hts := atoms_spec (ws := w_D_isPiece) B.pre
  have hown : s.vm.findClass R_D = some m.cls := findClass_of_methodNamed B.named
  have hlocks := B.notSynchronized
  have hk0 := hts (.fieldLink R_D 52 "SurplusMatchModel" "pieces" "I") (List.mem_cons_of_mem _ (w0 598 rfl))
  have hk1 : ∀ w ∈ w_D, w ∈ w_D_isPiece := fun w h => List.mem_cons_of_mem _ (i_D w h)
  have hl := lv_entry ([.ref dq, .int x1]) (n := 2) (Nat.le_of_ble_eq_true rfl)
  rw [lg_entry_eq]
  generalize (lg_sl ([.ref dq, .int x1]) ++ List.replicate (2 - (lg_sl ([.ref dq, .int x1])).length) Slot.unset).toArray = ls at hl ⊢
  have hl : lv_has ls 2 [(0, .ref dq), (1, .int x1)] := hl
  refine lv_iload_n hx hb d_D_isPiece_0 rfl (lv_at hl 1 rfl) ?_
  refine lv_iconst (v := 0) hx hb d_D_isPiece_1 (by decide) ?_
  refine lv_aload_n hx hb d_D_isPiece_2 rfl (lv_at hl 0 rfl) ?_
  refine va_get (D := (dC, dI)) (ci := 5) (v := .int d_pieces) (C := R_D) (T := F_D) (N := 20) hx hb hts hk1 hown hK hP 0 rfl rfl 5 (by decide) hk0 (fun _ h9 => h9) rfl d_D_isPiece_3 ?_
  refine lv_iconst (v := 1) hx hb d_D_isPiece_6 (by decide) ?_
  refine lv_isub hx hb d_D_isPiece_7 ?_
  obtain ⟨r1, hc, hm⟩ := bd hm
  try dsimp only at hm
  refine vp_callSi (W.runS (As := [.int x1, .int 0, .int (d_pieces - 1)]) (rest := []) ⟨hx, hb, hml, hown, hts⟩ (c_D_in l dC dI cI x1 0 (d_pieces - 1) N r1 hc) (cwS 3 hts (gS (w0 667 rfl) (w0 668 rfl) (w0 33 rfl) (w0 669 rfl)) rfl rfl rfl q_D_in ⟨Nat.le_of_ble_eq_true rfl, Nat.le_of_ble_eq_true rfl⟩) ro_pre0 rfl rfl hl.1 rfl (lv_room (Nat.le_of_ble_eq_true rfl)) d_D_isPiece_8 ⟨Nat.le_of_ble_eq_true rfl, Nat.le_of_ble_eq_true rfl⟩) (fun r9 hr9 => ?_)
  subst hr9
  obtain ⟨h9, hm⟩ := gd hm
  have hnr : narrow .boolean (.int r1) = .int r1 := by rw [show narrow .boolean (.int r1) = .int (r1 &&& 1) from rfl, Classical.not_not.mp h9]
  cases hm
  exact W.zret hx hb hr hnr (fun t ht hW => ⟨_, rfl, rfl, ht⟩) (fun _ h => nomatch h) d_D_isPiece_11

def w_D_isOrder : List Cond := .code y_D_isOrder b_D_isOrder 2 (some .boolean) :: W0
theorem q_D_isOrder : y_D_isOrder.cls = R_D ∧ y_D_isOrder.cls ≠ "java/lang/invoke/MethodHandle" ∧ y_D_isOrder.cls ≠ "java/lang/invoke/VarHandle" ∧ (parseMethodDescriptor y_D_isOrder.desc).map (fun d => d.parameters.length) = some 1 := by decide +kernel
def m_D_isOrder (d_orders : Int32) (x1 : Int32) : Option Int32 :=
  ((m_D_in x1 0 (d_orders - 1)).bind fun r1 =>
  (if ¬ (r1 &&& 1) = r1 then none else some r1))
set_option maxHeartbeats 4000000 in
set_option maxRecDepth 100000 in
theorem c_D_isOrder (l : Launch) (dC : Nat → ClassId) (dI : Nat → Nat → Nat) (cI cZ cJ : ClassId) (dq dq8 dq9 dq10 dq11 dq12 dq13 dq14 dq15 dq18 dq19 dq20 : Nat) (d_thrown : Int32) (d_today : Int32) (d_cut : Int32) (d_aging : Int32) (d_saleFrom : Int32) (d_pieces : Int32) (d_orders : Int32) (d_piece : Nat → Int32) (d_order : Nat → Int32) (d_came : Nat → Int32) (d_worth : Nat → Int32) (d_used : Nat → Int32) (d_usedBy : Nat → Int32) (d_reservedFor : Nat → Int32) (d_reservedTo : Nat → Int32) (d_ran : Int32) (d_sum : Int32) (d_pieceDual : Nat → Int32) (d_orderDual : Nat → Int32) (d_table : Nat → Int64) (x1 : Int32) (N : Nat) (res : Int32) (hm : m_D_isOrder d_orders x1 = some res) : Met l y_D_isOrder w_D_isOrder ({ frames := 1, cells := 0, slots := 0, locals := 22 } : Room) (va_Pc [.ref dq, .int x1] (fun U => va_P (dC, dI) classes [(dq, .inr (5, [.int d_thrown, .int d_today, .int d_cut, .int d_aging, .int d_saleFrom, .int d_pieces, .int d_orders, .ref dq8, .ref dq9, .ref dq10, .ref dq11, .ref dq12, .ref dq13, .ref dq14, .ref dq15, .int d_ran, .int d_sum, .ref dq18, .ref dq19, .ref dq20])), (dq8, .inl (cI, 40, .inl d_piece)), (dq9, .inl (cI, 40, .inl d_order)), (dq10, .inl (cI, 10, .inl d_came)), (dq11, .inl (cI, 100, .inl d_worth)), (dq12, .inl (cZ, 10, .inl d_used)), (dq13, .inl (cI, 10, .inl d_usedBy)), (dq14, .inl (cI, 10, .inl d_reservedFor)), (dq15, .inl (cI, 10, .inl d_reservedTo)), (dq18, .inl (cI, 10, .inl d_pieceDual)), (dq19, .inl (cI, 10, .inl d_orderDual)), (dq20, .inl (cJ, 11264, .inr (.inl d_table)))] U.heap ∧ va_K (dC, dI) classes [(cI, .int), (cZ, .boolean), (cJ, .long)] U ∧ nw U)) (vp_Si (fun x => res = x)) 0 0 (fun _ => False) := by
  unfold m_D_isOrder at hm
  refine Met.ofW (cc := b_D_isOrder) (maxL := 2) (ret := (some .boolean)) (by decide) rfl ?_
  intro p e s m args below meth c s₁ B hml hv
  obtain ⟨rfl, hP, hK, hN⟩ := hv
  have hx := B.exec
  have hb := B.bytes
  have hr := B.returns
  have hts := atoms_spec (ws := w_D_isOrder) B.pre
  have hown : s.vm.findClass R_D = some m.cls := findClass_of_methodNamed B.named
  have hlocks := B.notSynchronized
  have hk0 := hts (.fieldLink R_D 59 "SurplusMatchModel" "orders" "I") (List.mem_cons_of_mem _ (w0 599 rfl))
  have hk1 : ∀ w ∈ w_D, w ∈ w_D_isOrder := fun w h => List.mem_cons_of_mem _ (i_D w h)
  have hl := lv_entry ([.ref dq, .int x1]) (n := 2) (Nat.le_of_ble_eq_true rfl)
  rw [lg_entry_eq]
  generalize (lg_sl ([.ref dq, .int x1]) ++ List.replicate (2 - (lg_sl ([.ref dq, .int x1])).length) Slot.unset).toArray = ls at hl ⊢
  have hl : lv_has ls 2 [(0, .ref dq), (1, .int x1)] := hl
  refine lv_iload_n hx hb d_D_isOrder_0 rfl (lv_at hl 1 rfl) ?_
  refine lv_iconst (v := 0) hx hb d_D_isOrder_1 (by decide) ?_
  refine lv_aload_n hx hb d_D_isOrder_2 rfl (lv_at hl 0 rfl) ?_
  refine va_get (D := (dC, dI)) (ci := 5) (v := .int d_orders) (C := R_D) (T := F_D) (N := 20) hx hb hts hk1 hown hK hP 0 rfl rfl 6 (by decide) hk0 (fun _ h9 => h9) rfl d_D_isOrder_3 ?_
  refine lv_iconst (v := 1) hx hb d_D_isOrder_6 (by decide) ?_
  refine lv_isub hx hb d_D_isOrder_7 ?_
  obtain ⟨r1, hc, hm⟩ := bd hm
  try dsimp only at hm
  refine vp_callSi (W.runS (As := [.int x1, .int 0, .int (d_orders - 1)]) (rest := []) ⟨hx, hb, hml, hown, hts⟩ (c_D_in l dC dI cI x1 0 (d_orders - 1) N r1 hc) (cwS 3 hts (gS (w0 667 rfl) (w0 668 rfl) (w0 33 rfl) (w0 669 rfl)) rfl rfl rfl q_D_in ⟨Nat.le_of_ble_eq_true rfl, Nat.le_of_ble_eq_true rfl⟩) ro_pre0 rfl rfl hl.1 rfl (lv_room (Nat.le_of_ble_eq_true rfl)) d_D_isOrder_8 ⟨Nat.le_of_ble_eq_true rfl, Nat.le_of_ble_eq_true rfl⟩) (fun r9 hr9 => ?_)
  subst hr9
  obtain ⟨h9, hm⟩ := gd hm
  have hnr : narrow .boolean (.int r1) = .int r1 := by rw [show narrow .boolean (.int r1) = .int (r1 &&& 1) from rfl, Classical.not_not.mp h9]
  cases hm
  exact W.zret hx hb hr hnr (fun t ht hW => ⟨_, rfl, rfl, ht⟩) (fun _ h => nomatch h) d_D_isOrder_11

def w_D_isFit : List Cond := .code y_D_isFit b_D_isFit 5 (some .boolean) :: W0
theorem q_D_isFit : y_D_isFit.cls = R_D ∧ y_D_isFit.cls ≠ "java/lang/invoke/MethodHandle" ∧ y_D_isFit.cls ≠ "java/lang/invoke/VarHandle" ∧ (parseMethodDescriptor y_D_isFit.desc).map (fun d => d.parameters.length) = some 2 := by decide +kernel
def m_D_isFit (d_piece : Nat → Int32) (d_order : Nat → Int32) (x1 : Int32) (x2 : Int32) : Option Int32 :=
  (if (4 * x1) < 0 ∨ 40 ≤ (4 * x1).toNatClampNeg then none else
(if (4 * x2) < 0 ∨ 40 ≤ (4 * x2).toNatClampNeg then none else
(if (d_piece (4 * x1).toNatClampNeg) = (d_order (4 * x2).toNatClampNeg) then
  (if ((4 * x1) + 1) < 0 ∨ 40 ≤ ((4 * x1) + 1).toNatClampNeg then none else
  (if ((4 * x2) + 1) < 0 ∨ 40 ≤ ((4 * x2) + 1).toNatClampNeg then none else
  (if (d_piece ((4 * x1) + 1).toNatClampNeg) < (d_order ((4 * x2) + 1).toNatClampNeg) then
    some 0
   else
    (if ((4 * x1) + 2) < 0 ∨ 40 ≤ ((4 * x1) + 2).toNatClampNeg then none else
    (if ((4 * x2) + 2) < 0 ∨ 40 ≤ ((4 * x2) + 2).toNatClampNeg then none else
    (if (d_piece ((4 * x1) + 2).toNatClampNeg) < (d_order ((4 * x2) + 2).toNatClampNeg) then
      some 0
     else
      (if ((4 * x1) + 3) < 0 ∨ 40 ≤ ((4 * x1) + 3).toNatClampNeg then none else
      (if ((4 * x2) + 3) < 0 ∨ 40 ≤ ((4 * x2) + 3).toNatClampNeg then none else
      (if (d_piece ((4 * x1) + 3).toNatClampNeg) = (d_order ((4 * x2) + 3).toNatClampNeg) then
        some 1
       else
        some 0)))))))))
 else
  some 0)))
set_option maxHeartbeats 4000000 in
set_option maxRecDepth 100000 in
theorem c_D_isFit (l : Launch) (dC : Nat → ClassId) (dI : Nat → Nat → Nat) (cI cZ cJ : ClassId) (dq dq8 dq9 dq10 dq11 dq12 dq13 dq14 dq15 dq18 dq19 dq20 : Nat) (d_thrown : Int32) (d_today : Int32) (d_cut : Int32) (d_aging : Int32) (d_saleFrom : Int32) (d_pieces : Int32) (d_orders : Int32) (d_piece : Nat → Int32) (d_order : Nat → Int32) (d_came : Nat → Int32) (d_worth : Nat → Int32) (d_used : Nat → Int32) (d_usedBy : Nat → Int32) (d_reservedFor : Nat → Int32) (d_reservedTo : Nat → Int32) (d_ran : Int32) (d_sum : Int32) (d_pieceDual : Nat → Int32) (d_orderDual : Nat → Int32) (d_table : Nat → Int64) (x1 : Int32) (x2 : Int32) (N : Nat) (res : Int32) (hm : m_D_isFit d_piece d_order x1 x2 = some res) : Met l y_D_isFit w_D_isFit ({ frames := 0, cells := 0, slots := 0, locals := 0 } : Room) (va_Pc [.ref dq, .int x1, .int x2] (fun U => va_P (dC, dI) classes [(dq, .inr (5, [.int d_thrown, .int d_today, .int d_cut, .int d_aging, .int d_saleFrom, .int d_pieces, .int d_orders, .ref dq8, .ref dq9, .ref dq10, .ref dq11, .ref dq12, .ref dq13, .ref dq14, .ref dq15, .int d_ran, .int d_sum, .ref dq18, .ref dq19, .ref dq20])), (dq8, .inl (cI, 40, .inl d_piece)), (dq9, .inl (cI, 40, .inl d_order)), (dq10, .inl (cI, 10, .inl d_came)), (dq11, .inl (cI, 100, .inl d_worth)), (dq12, .inl (cZ, 10, .inl d_used)), (dq13, .inl (cI, 10, .inl d_usedBy)), (dq14, .inl (cI, 10, .inl d_reservedFor)), (dq15, .inl (cI, 10, .inl d_reservedTo)), (dq18, .inl (cI, 10, .inl d_pieceDual)), (dq19, .inl (cI, 10, .inl d_orderDual)), (dq20, .inl (cJ, 11264, .inr (.inl d_table)))] U.heap ∧ va_K (dC, dI) classes [(cI, .int), (cZ, .boolean), (cJ, .long)] U ∧ nw U)) (vp_Si (fun x => res = x)) 0 0 (fun _ => False) := by
  unfold m_D_isFit at hm
  refine Met.ofW (cc := b_D_isFit) (maxL := 5) (ret := (some .boolean)) (by decide) rfl ?_
  intro p e s m args below meth c s₁ B hml hv
  obtain ⟨rfl, hP, hK, hN⟩ := hv
  have hx := B.exec
  have hb := B.bytes
  have hr := B.returns
  have hts := atoms_spec (ws := w_D_isFit) B.pre
  have hown : s.vm.findClass R_D = some m.cls := findClass_of_methodNamed B.named
  have hlocks := B.notSynchronized
  have hk0 := hts (.fieldLink R_D 13 "SurplusMatchModel" "piece" "[I") (List.mem_cons_of_mem _ (w0 600 rfl))
  have hk1 : ∀ w ∈ w_D, w ∈ w_D_isFit := fun w h => List.mem_cons_of_mem _ (i_D w h)
  have hk2 := hts (.fieldLink R_D 17 "SurplusMatchModel" "order" "[I") (List.mem_cons_of_mem _ (w0 601 rfl))
  have hl := lv_entry ([.ref dq, .int x1, .int x2]) (n := 5) (Nat.le_of_ble_eq_true rfl)
  rw [lg_entry_eq]
  generalize (lg_sl ([.ref dq, .int x1, .int x2]) ++ List.replicate (5 - (lg_sl ([.ref dq, .int x1, .int x2])).length) Slot.unset).toArray = ls at hl ⊢
  have hl : lv_has ls 5 [(0, .ref dq), (1, .int x1), (2, .int x2)] := hl
  refine lv_iconst (v := 4) hx hb d_D_isFit_0 (by decide) ?_
  refine lv_iload_n hx hb d_D_isFit_1 rfl (lv_at hl 1 rfl) ?_
  refine lv_imul hx hb d_D_isFit_2 ?_
  refine lv_istore_n (lv' := [(3, .int (4 * x1)), (0, .ref dq), (1, .int x1), (2, .int x2)]) hx hb d_D_isFit_3 rfl hl (by decide) rfl (fun ls hl => ?_)
  refine lv_iconst (v := 4) hx hb d_D_isFit_4 (by decide) ?_
  refine lv_iload_n hx hb d_D_isFit_5 rfl (lv_at hl 3 rfl) ?_
  refine lv_imul hx hb d_D_isFit_6 ?_
  refine lv_istore (lv' := [(4, .int (4 * x2)), (3, .int (4 * x1)), (0, .ref dq), (1, .int x1), (2, .int x2)]) hx hb d_D_isFit_7 hl (by decide) rfl (fun ls hl => ?_)
  refine lv_aload_n hx hb d_D_isFit_9 rfl (lv_at hl 2 rfl) ?_
  refine va_get (D := (dC, dI)) (ci := 5) (v := .ref dq8) (C := R_D) (T := F_D) (N := 20) hx hb hts hk1 hown hK hP 0 rfl rfl 7 (by decide) hk0 (fun _ h9 => h9) rfl d_D_isFit_10 ?_
  refine lv_iload_n hx hb d_D_isFit_13 rfl (lv_at hl 1 rfl) ?_
  obtain ⟨h9, hm⟩ := gd hm
  refine va_iald hx hb hK hP 1 0 rfl rfl h9 d_D_isFit_14 ?_
  refine lv_aload_n hx hb d_D_isFit_15 rfl (lv_at hl 2 rfl) ?_
  refine va_get (D := (dC, dI)) (ci := 5) (v := .ref dq9) (C := R_D) (T := F_D) (N := 20) hx hb hts hk1 hown hK hP 0 rfl rfl 8 (by decide) hk2 (fun _ h9 => h9) rfl d_D_isFit_16 ?_
  refine lv_iload hx hb d_D_isFit_19 (lv_at hl 0 rfl) ?_
  obtain ⟨h9, hm⟩ := gd hm
  refine va_iald hx hb hK hP 2 0 rfl rfl h9 d_D_isFit_21 ?_
  refine lv_icmp_ne (tgt := 89) hx hb d_D_isFit_22 (by decide) (fun c9 => ?_) (fun c9 => ?_)
  · replace hm := if_f c9 hm
    refine lv_iconst (v := 0) hx hb d_D_isFit_89 (by decide) ?_
    cases hm
    exact W.zret hx hb hr (by decide) (fun t ht hW => ⟨_, rfl, rfl, ht⟩) (fun _ h => nomatch h) d_D_isFit_90
  · replace hm := if_t c9 hm
    refine lv_aload_n hx hb d_D_isFit_25 rfl (lv_at hl 2 rfl) ?_
    refine va_get (D := (dC, dI)) (ci := 5) (v := .ref dq8) (C := R_D) (T := F_D) (N := 20) hx hb hts hk1 hown hK hP 0 rfl rfl 7 (by decide) hk0 (fun _ h9 => h9) rfl d_D_isFit_26 ?_
    refine lv_iload_n hx hb d_D_isFit_29 rfl (lv_at hl 1 rfl) ?_
    refine lv_iconst (v := 1) hx hb d_D_isFit_30 (by decide) ?_
    refine lv_iadd hx hb d_D_isFit_31 ?_
    obtain ⟨h9, hm⟩ := gd hm
    refine va_iald hx hb hK hP 1 0 rfl rfl h9 d_D_isFit_32 ?_
    refine lv_aload_n hx hb d_D_isFit_33 rfl (lv_at hl 2 rfl) ?_
    refine va_get (D := (dC, dI)) (ci := 5) (v := .ref dq9) (C := R_D) (T := F_D) (N := 20) hx hb hts hk1 hown hK hP 0 rfl rfl 8 (by decide) hk2 (fun _ h9 => h9) rfl d_D_isFit_34 ?_
    refine lv_iload hx hb d_D_isFit_37 (lv_at hl 0 rfl) ?_
    refine lv_iconst (v := 1) hx hb d_D_isFit_39 (by decide) ?_
    refine lv_iadd hx hb d_D_isFit_40 ?_
    obtain ⟨h9, hm⟩ := gd hm
    refine va_iald hx hb hK hP 2 0 rfl rfl h9 d_D_isFit_41 ?_
    refine lv_icmp_lt (tgt := 89) hx hb d_D_isFit_42 (by decide) (fun c9 => ?_) (fun c9 => ?_)
    · replace hm := if_t c9 hm
      refine lv_iconst (v := 0) hx hb d_D_isFit_89 (by decide) ?_
      cases hm
      exact W.zret hx hb hr (by decide) (fun t ht hW => ⟨_, rfl, rfl, ht⟩) (fun _ h => nomatch h) d_D_isFit_90
    · replace hm := if_f c9 hm
      refine lv_aload_n hx hb d_D_isFit_45 rfl (lv_at hl 2 rfl) ?_
      refine va_get (D := (dC, dI)) (ci := 5) (v := .ref dq8) (C := R_D) (T := F_D) (N := 20) hx hb hts hk1 hown hK hP 0 rfl rfl 7 (by decide) hk0 (fun _ h9 => h9) rfl d_D_isFit_46 ?_
      refine lv_iload_n hx hb d_D_isFit_49 rfl (lv_at hl 1 rfl) ?_
      refine lv_iconst (v := 2) hx hb d_D_isFit_50 (by decide) ?_
      refine lv_iadd hx hb d_D_isFit_51 ?_
      obtain ⟨h9, hm⟩ := gd hm
      refine va_iald hx hb hK hP 1 0 rfl rfl h9 d_D_isFit_52 ?_
      refine lv_aload_n hx hb d_D_isFit_53 rfl (lv_at hl 2 rfl) ?_
      refine va_get (D := (dC, dI)) (ci := 5) (v := .ref dq9) (C := R_D) (T := F_D) (N := 20) hx hb hts hk1 hown hK hP 0 rfl rfl 8 (by decide) hk2 (fun _ h9 => h9) rfl d_D_isFit_54 ?_
      refine lv_iload hx hb d_D_isFit_57 (lv_at hl 0 rfl) ?_
      refine lv_iconst (v := 2) hx hb d_D_isFit_59 (by decide) ?_
      refine lv_iadd hx hb d_D_isFit_60 ?_
      obtain ⟨h9, hm⟩ := gd hm
      refine va_iald hx hb hK hP 2 0 rfl rfl h9 d_D_isFit_61 ?_
      refine lv_icmp_lt (tgt := 89) hx hb d_D_isFit_62 (by decide) (fun c9 => ?_) (fun c9 => ?_)
      · replace hm := if_t c9 hm
        refine lv_iconst (v := 0) hx hb d_D_isFit_89 (by decide) ?_
        cases hm
        exact W.zret hx hb hr (by decide) (fun t ht hW => ⟨_, rfl, rfl, ht⟩) (fun _ h => nomatch h) d_D_isFit_90
      · replace hm := if_f c9 hm
        refine lv_aload_n hx hb d_D_isFit_65 rfl (lv_at hl 2 rfl) ?_
        refine va_get (D := (dC, dI)) (ci := 5) (v := .ref dq8) (C := R_D) (T := F_D) (N := 20) hx hb hts hk1 hown hK hP 0 rfl rfl 7 (by decide) hk0 (fun _ h9 => h9) rfl d_D_isFit_66 ?_
        refine lv_iload_n hx hb d_D_isFit_69 rfl (lv_at hl 1 rfl) ?_
        refine lv_iconst (v := 3) hx hb d_D_isFit_70 (by decide) ?_
        refine lv_iadd hx hb d_D_isFit_71 ?_
        obtain ⟨h9, hm⟩ := gd hm
        refine va_iald hx hb hK hP 1 0 rfl rfl h9 d_D_isFit_72 ?_
        refine lv_aload_n hx hb d_D_isFit_73 rfl (lv_at hl 2 rfl) ?_
        refine va_get (D := (dC, dI)) (ci := 5) (v := .ref dq9) (C := R_D) (T := F_D) (N := 20) hx hb hts hk1 hown hK hP 0 rfl rfl 8 (by decide) hk2 (fun _ h9 => h9) rfl d_D_isFit_74 ?_
        refine lv_iload hx hb d_D_isFit_77 (lv_at hl 0 rfl) ?_
        refine lv_iconst (v := 3) hx hb d_D_isFit_79 (by decide) ?_
        refine lv_iadd hx hb d_D_isFit_80 ?_
        obtain ⟨h9, hm⟩ := gd hm
        refine va_iald hx hb hK hP 2 0 rfl rfl h9 d_D_isFit_81 ?_
        refine lv_icmp_ne (tgt := 89) hx hb d_D_isFit_82 (by decide) (fun c9 => ?_) (fun c9 => ?_)
        · replace hm := if_f c9 hm
          refine lv_iconst (v := 0) hx hb d_D_isFit_89 (by decide) ?_
          cases hm
          exact W.zret hx hb hr (by decide) (fun t ht hW => ⟨_, rfl, rfl, ht⟩) (fun _ h => nomatch h) d_D_isFit_90
        · replace hm := if_t c9 hm
          refine lv_iconst (v := 1) hx hb d_D_isFit_85 (by decide) ?_
          refine lv_goto (tgt := 90) hx hb d_D_isFit_86 (by decide) ?_
          cases hm
          exact W.zret hx hb hr (by decide) (fun t ht hW => ⟨_, rfl, rfl, ht⟩) (fun _ h => nomatch h) d_D_isFit_90

def w_D_netOf : List Cond := .code y_D_netOf b_D_netOf 4 (some .int) :: W0
theorem q_D_netOf : y_D_netOf.cls = R_D ∧ y_D_netOf.cls ≠ "java/lang/invoke/MethodHandle" ∧ y_D_netOf.cls ≠ "java/lang/invoke/VarHandle" ∧ (parseMethodDescriptor y_D_netOf.desc).map (fun d => d.parameters.length) = some 2 := by decide +kernel
def m_D_netOf (d_today : Int32) (d_cut : Int32) (d_aging : Int32) (d_piece : Nat → Int32) (d_order : Nat → Int32) (d_came : Nat → Int32) (d_worth : Nat → Int32) (x1 : Int32) (x2 : Int32) : Option Int32 :=
  (if ((10 * x1) + x2) < 0 ∨ 100 ≤ ((10 * x1) + x2).toNatClampNeg then none else
(if x1 < 0 ∨ 10 ≤ x1.toNatClampNeg then none else
(if ((4 * x1) + 1) < 0 ∨ 40 ≤ ((4 * x1) + 1).toNatClampNeg then none else
(if ((4 * x2) + 1) < 0 ∨ 40 ≤ ((4 * x2) + 1).toNatClampNeg then none else
(if (d_piece ((4 * x1) + 1).toNatClampNeg) = (d_order ((4 * x2) + 1).toNatClampNeg) then
  (if ((4 * x1) + 2) < 0 ∨ 40 ≤ ((4 * x1) + 2).toNatClampNeg then none else
  (if ((4 * x2) + 2) < 0 ∨ 40 ≤ ((4 * x2) + 2).toNatClampNeg then none else
  (if (d_piece ((4 * x1) + 2).toNatClampNeg) = (d_order ((4 * x2) + 2).toNatClampNeg) then
    (if ((d_worth ((10 * x1) + x2).toNatClampNeg) - (d_aging * (d_today - (d_came x1.toNatClampNeg)))) ≤ 0 then
      some 0
     else
      some ((d_worth ((10 * x1) + x2).toNatClampNeg) - (d_aging * (d_today - (d_came x1.toNatClampNeg)))))
   else
    (if (((d_worth ((10 * x1) + x2).toNatClampNeg) - (d_aging * (d_today - (d_came x1.toNatClampNeg)))) - d_cut) ≤ 0 then
      some 0
     else
      some (((d_worth ((10 * x1) + x2).toNatClampNeg) - (d_aging * (d_today - (d_came x1.toNatClampNeg)))) - d_cut)))))
 else
  (if ((4 * x1) + 2) < 0 ∨ 40 ≤ ((4 * x1) + 2).toNatClampNeg then none else
  (if ((4 * x2) + 2) < 0 ∨ 40 ≤ ((4 * x2) + 2).toNatClampNeg then none else
  (if (d_piece ((4 * x1) + 2).toNatClampNeg) = (d_order ((4 * x2) + 2).toNatClampNeg) then
    (if (((d_worth ((10 * x1) + x2).toNatClampNeg) - (d_aging * (d_today - (d_came x1.toNatClampNeg)))) - d_cut) ≤ 0 then
      some 0
     else
      some (((d_worth ((10 * x1) + x2).toNatClampNeg) - (d_aging * (d_today - (d_came x1.toNatClampNeg)))) - d_cut))
   else
    (if ((((d_worth ((10 * x1) + x2).toNatClampNeg) - (d_aging * (d_today - (d_came x1.toNatClampNeg)))) - d_cut) - d_cut) ≤ 0 then
      some 0
     else
      some ((((d_worth ((10 * x1) + x2).toNatClampNeg) - (d_aging * (d_today - (d_came x1.toNatClampNeg)))) - d_cut) - d_cut))))))))))
set_option maxHeartbeats 4000000 in
set_option maxRecDepth 100000 in
theorem c_D_netOf (l : Launch) (dC : Nat → ClassId) (dI : Nat → Nat → Nat) (cI cZ cJ : ClassId) (dq dq8 dq9 dq10 dq11 dq12 dq13 dq14 dq15 dq18 dq19 dq20 : Nat) (d_thrown : Int32) (d_today : Int32) (d_cut : Int32) (d_aging : Int32) (d_saleFrom : Int32) (d_pieces : Int32) (d_orders : Int32) (d_piece : Nat → Int32) (d_order : Nat → Int32) (d_came : Nat → Int32) (d_worth : Nat → Int32) (d_used : Nat → Int32) (d_usedBy : Nat → Int32) (d_reservedFor : Nat → Int32) (d_reservedTo : Nat → Int32) (d_ran : Int32) (d_sum : Int32) (d_pieceDual : Nat → Int32) (d_orderDual : Nat → Int32) (d_table : Nat → Int64) (x1 : Int32) (x2 : Int32) (N : Nat) (res : Int32) (hm : m_D_netOf d_today d_cut d_aging d_piece d_order d_came d_worth x1 x2 = some res) : Met l y_D_netOf w_D_netOf ({ frames := 0, cells := 0, slots := 0, locals := 0 } : Room) (va_Pc [.ref dq, .int x1, .int x2] (fun U => va_P (dC, dI) classes [(dq, .inr (5, [.int d_thrown, .int d_today, .int d_cut, .int d_aging, .int d_saleFrom, .int d_pieces, .int d_orders, .ref dq8, .ref dq9, .ref dq10, .ref dq11, .ref dq12, .ref dq13, .ref dq14, .ref dq15, .int d_ran, .int d_sum, .ref dq18, .ref dq19, .ref dq20])), (dq8, .inl (cI, 40, .inl d_piece)), (dq9, .inl (cI, 40, .inl d_order)), (dq10, .inl (cI, 10, .inl d_came)), (dq11, .inl (cI, 100, .inl d_worth)), (dq12, .inl (cZ, 10, .inl d_used)), (dq13, .inl (cI, 10, .inl d_usedBy)), (dq14, .inl (cI, 10, .inl d_reservedFor)), (dq15, .inl (cI, 10, .inl d_reservedTo)), (dq18, .inl (cI, 10, .inl d_pieceDual)), (dq19, .inl (cI, 10, .inl d_orderDual)), (dq20, .inl (cJ, 11264, .inr (.inl d_table)))] U.heap ∧ va_K (dC, dI) classes [(cI, .int), (cZ, .boolean), (cJ, .long)] U ∧ nw U)) (vp_Si (fun x => res = x)) 0 0 (fun _ => False) := by
  unfold m_D_netOf at hm
  refine Met.ofW (cc := b_D_netOf) (maxL := 4) (ret := (some .int)) (by decide) rfl ?_
  intro p e s m args below meth c s₁ B hml hv
  obtain ⟨rfl, hP, hK, hN⟩ := hv
  have hx := B.exec
  have hb := B.bytes
  have hr := B.returns
  have hts := atoms_spec (ws := w_D_netOf) B.pre
  have hown : s.vm.findClass R_D = some m.cls := findClass_of_methodNamed B.named
  have hlocks := B.notSynchronized
  have hk0 := hts (.fieldLink R_D 23 "SurplusMatchModel" "worth" "[I") (List.mem_cons_of_mem _ (w0 603 rfl))
  have hk1 : ∀ w ∈ w_D, w ∈ w_D_netOf := fun w h => List.mem_cons_of_mem _ (i_D w h)
  have hk2 := hts (.fieldLink R_D 92 "SurplusMatchModel" "aging" "I") (List.mem_cons_of_mem _ (w0 596 rfl))
  have hk3 := hts (.fieldLink R_D 70 "SurplusMatchModel" "today" "I") (List.mem_cons_of_mem _ (w0 594 rfl))
  have hk4 := hts (.fieldLink R_D 20 "SurplusMatchModel" "came" "[I") (List.mem_cons_of_mem _ (w0 602 rfl))
  have hk5 := hts (.fieldLink R_D 13 "SurplusMatchModel" "piece" "[I") (List.mem_cons_of_mem _ (w0 600 rfl))
  have hk6 := hts (.fieldLink R_D 17 "SurplusMatchModel" "order" "[I") (List.mem_cons_of_mem _ (w0 601 rfl))
  have hk7 := hts (.fieldLink R_D 89 "SurplusMatchModel" "cut" "I") (List.mem_cons_of_mem _ (w0 595 rfl))
  have hl := lv_entry ([.ref dq, .int x1, .int x2]) (n := 4) (Nat.le_of_ble_eq_true rfl)
  rw [lg_entry_eq]
  generalize (lg_sl ([.ref dq, .int x1, .int x2]) ++ List.replicate (4 - (lg_sl ([.ref dq, .int x1, .int x2])).length) Slot.unset).toArray = ls at hl ⊢
  have hl : lv_has ls 4 [(0, .ref dq), (1, .int x1), (2, .int x2)] := hl
  refine lv_aload_n hx hb d_D_netOf_0 rfl (lv_at hl 0 rfl) ?_
  refine va_get (D := (dC, dI)) (ci := 5) (v := .ref dq11) (C := R_D) (T := F_D) (N := 20) hx hb hts hk1 hown hK hP 0 rfl rfl 10 (by decide) hk0 (fun _ h9 => h9) rfl d_D_netOf_1 ?_
  refine lv_bipush (v := 10) hx hb d_D_netOf_4 (by decide) ?_
  refine lv_iload_n hx hb d_D_netOf_6 rfl (lv_at hl 1 rfl) ?_
  refine lv_imul hx hb d_D_netOf_7 ?_
  refine lv_iload_n hx hb d_D_netOf_8 rfl (lv_at hl 2 rfl) ?_
  refine lv_iadd hx hb d_D_netOf_9 ?_
  obtain ⟨h9, hm⟩ := gd hm
  refine va_iald hx hb hK hP 4 0 rfl rfl h9 d_D_netOf_10 ?_
  refine lv_aload_n hx hb d_D_netOf_11 rfl (lv_at hl 0 rfl) ?_
  refine va_get (D := (dC, dI)) (ci := 5) (v := .int d_aging) (C := R_D) (T := F_D) (N := 20) hx hb hts hk1 hown hK hP 0 rfl rfl 3 (by decide) hk2 (fun _ h9 => h9) rfl d_D_netOf_12 ?_
  refine lv_aload_n hx hb d_D_netOf_15 rfl (lv_at hl 0 rfl) ?_
  refine va_get (D := (dC, dI)) (ci := 5) (v := .int d_today) (C := R_D) (T := F_D) (N := 20) hx hb hts hk1 hown hK hP 0 rfl rfl 1 (by decide) hk3 (fun _ h9 => h9) rfl d_D_netOf_16 ?_
  refine lv_aload_n hx hb d_D_netOf_19 rfl (lv_at hl 0 rfl) ?_
  refine va_get (D := (dC, dI)) (ci := 5) (v := .ref dq10) (C := R_D) (T := F_D) (N := 20) hx hb hts hk1 hown hK hP 0 rfl rfl 9 (by decide) hk4 (fun _ h9 => h9) rfl d_D_netOf_20 ?_
  refine lv_iload_n hx hb d_D_netOf_23 rfl (lv_at hl 1 rfl) ?_
  obtain ⟨h9, hm⟩ := gd hm
  refine va_iald hx hb hK hP 3 0 rfl rfl h9 d_D_netOf_24 ?_
  refine lv_isub hx hb d_D_netOf_25 ?_
  refine lv_imul hx hb d_D_netOf_26 ?_
  refine lv_isub hx hb d_D_netOf_27 ?_
  refine lv_istore_n (lv' := [(3, .int ((d_worth ((10 * x1) + x2).toNatClampNeg) - (d_aging * (d_today - (d_came x1.toNatClampNeg))))), (0, .ref dq), (1, .int x1), (2, .int x2)]) hx hb d_D_netOf_28 rfl hl (by decide) rfl (fun ls hl => ?_)
  refine lv_aload_n hx hb d_D_netOf_29 rfl (lv_at hl 1 rfl) ?_
  refine va_get (D := (dC, dI)) (ci := 5) (v := .ref dq8) (C := R_D) (T := F_D) (N := 20) hx hb hts hk1 hown hK hP 0 rfl rfl 7 (by decide) hk5 (fun _ h9 => h9) rfl d_D_netOf_30 ?_
  refine lv_iconst (v := 4) hx hb d_D_netOf_33 (by decide) ?_
  refine lv_iload_n hx hb d_D_netOf_34 rfl (lv_at hl 2 rfl) ?_
  refine lv_imul hx hb d_D_netOf_35 ?_
  refine lv_iconst (v := 1) hx hb d_D_netOf_36 (by decide) ?_
  refine lv_iadd hx hb d_D_netOf_37 ?_
  obtain ⟨h9, hm⟩ := gd hm
  refine va_iald hx hb hK hP 1 0 rfl rfl h9 d_D_netOf_38 ?_
  refine lv_aload_n hx hb d_D_netOf_39 rfl (lv_at hl 1 rfl) ?_
  refine va_get (D := (dC, dI)) (ci := 5) (v := .ref dq9) (C := R_D) (T := F_D) (N := 20) hx hb hts hk1 hown hK hP 0 rfl rfl 8 (by decide) hk6 (fun _ h9 => h9) rfl d_D_netOf_40 ?_
  refine lv_iconst (v := 4) hx hb d_D_netOf_43 (by decide) ?_
  refine lv_iload_n hx hb d_D_netOf_44 rfl (lv_at hl 3 rfl) ?_
  refine lv_imul hx hb d_D_netOf_45 ?_
  refine lv_iconst (v := 1) hx hb d_D_netOf_46 (by decide) ?_
  refine lv_iadd hx hb d_D_netOf_47 ?_
  obtain ⟨h9, hm⟩ := gd hm
  refine va_iald hx hb hK hP 2 0 rfl rfl h9 d_D_netOf_48 ?_
  refine lv_icmp_eq (tgt := 59) hx hb d_D_netOf_49 (by decide) (fun c9 => ?_) (fun c9 => ?_)
  · replace hm := if_t c9 hm
    refine lv_aload_n hx hb d_D_netOf_59 rfl (lv_at hl 1 rfl) ?_
    refine va_get (D := (dC, dI)) (ci := 5) (v := .ref dq8) (C := R_D) (T := F_D) (N := 20) hx hb hts hk1 hown hK hP 0 rfl rfl 7 (by decide) hk5 (fun _ h9 => h9) rfl d_D_netOf_60 ?_
    refine lv_iconst (v := 4) hx hb d_D_netOf_63 (by decide) ?_
    refine lv_iload_n hx hb d_D_netOf_64 rfl (lv_at hl 2 rfl) ?_
    refine lv_imul hx hb d_D_netOf_65 ?_
    refine lv_iconst (v := 2) hx hb d_D_netOf_66 (by decide) ?_
    refine lv_iadd hx hb d_D_netOf_67 ?_
    obtain ⟨h9, hm⟩ := gd hm
    refine va_iald hx hb hK hP 1 0 rfl rfl h9 d_D_netOf_68 ?_
    refine lv_aload_n hx hb d_D_netOf_69 rfl (lv_at hl 1 rfl) ?_
    refine va_get (D := (dC, dI)) (ci := 5) (v := .ref dq9) (C := R_D) (T := F_D) (N := 20) hx hb hts hk1 hown hK hP 0 rfl rfl 8 (by decide) hk6 (fun _ h9 => h9) rfl d_D_netOf_70 ?_
    refine lv_iconst (v := 4) hx hb d_D_netOf_73 (by decide) ?_
    refine lv_iload_n hx hb d_D_netOf_74 rfl (lv_at hl 3 rfl) ?_
    refine lv_imul hx hb d_D_netOf_75 ?_
    refine lv_iconst (v := 2) hx hb d_D_netOf_76 (by decide) ?_
    refine lv_iadd hx hb d_D_netOf_77 ?_
    obtain ⟨h9, hm⟩ := gd hm
    refine va_iald hx hb hK hP 2 0 rfl rfl h9 d_D_netOf_78 ?_
    refine lv_icmp_eq (tgt := 89) hx hb d_D_netOf_79 (by decide) (fun c9 => ?_) (fun c9 => ?_)
    · replace hm := if_t c9 hm
      refine lv_iload_n hx hb d_D_netOf_89 rfl (lv_at hl 0 rfl) ?_
      refine lv_if_le (tgt := 97) hx hb d_D_netOf_90 (by decide) (fun c9 => ?_) (fun c9 => ?_)
      · replace hm := if_t c9 hm
        refine lv_iconst (v := 0) hx hb d_D_netOf_97 (by decide) ?_
        cases hm
        exact W.iret hx hb hr (fun t ht hW => ⟨_, rfl, rfl, ht⟩) (fun _ h => nomatch h) d_D_netOf_98
      · replace hm := if_f c9 hm
        refine lv_iload_n hx hb d_D_netOf_93 rfl (lv_at hl 0 rfl) ?_
        refine lv_goto (tgt := 98) hx hb d_D_netOf_94 (by decide) ?_
        cases hm
        exact W.iret hx hb hr (fun t ht hW => ⟨_, rfl, rfl, ht⟩) (fun _ h => nomatch h) d_D_netOf_98
    · replace hm := if_f c9 hm
      refine lv_iload_n hx hb d_D_netOf_82 rfl (lv_at hl 0 rfl) ?_
      refine lv_aload_n hx hb d_D_netOf_83 rfl (lv_at hl 1 rfl) ?_
      refine va_get (D := (dC, dI)) (ci := 5) (v := .int d_cut) (C := R_D) (T := F_D) (N := 20) hx hb hts hk1 hown hK hP 0 rfl rfl 2 (by decide) hk7 (fun _ h9 => h9) rfl d_D_netOf_84 ?_
      refine lv_isub hx hb d_D_netOf_87 ?_
      refine lv_istore_n (lv' := [(3, .int (((d_worth ((10 * x1) + x2).toNatClampNeg) - (d_aging * (d_today - (d_came x1.toNatClampNeg)))) - d_cut)), (0, .ref dq), (1, .int x1), (2, .int x2)]) hx hb d_D_netOf_88 rfl hl (by decide) rfl (fun ls hl => ?_)
      refine lv_iload_n hx hb d_D_netOf_89 rfl (lv_at hl 0 rfl) ?_
      refine lv_if_le (tgt := 97) hx hb d_D_netOf_90 (by decide) (fun c9 => ?_) (fun c9 => ?_)
      · replace hm := if_t c9 hm
        refine lv_iconst (v := 0) hx hb d_D_netOf_97 (by decide) ?_
        cases hm
        exact W.iret hx hb hr (fun t ht hW => ⟨_, rfl, rfl, ht⟩) (fun _ h => nomatch h) d_D_netOf_98
      · replace hm := if_f c9 hm
        refine lv_iload_n hx hb d_D_netOf_93 rfl (lv_at hl 0 rfl) ?_
        refine lv_goto (tgt := 98) hx hb d_D_netOf_94 (by decide) ?_
        cases hm
        exact W.iret hx hb hr (fun t ht hW => ⟨_, rfl, rfl, ht⟩) (fun _ h => nomatch h) d_D_netOf_98
  · replace hm := if_f c9 hm
    refine lv_iload_n hx hb d_D_netOf_52 rfl (lv_at hl 0 rfl) ?_
    refine lv_aload_n hx hb d_D_netOf_53 rfl (lv_at hl 1 rfl) ?_
    refine va_get (D := (dC, dI)) (ci := 5) (v := .int d_cut) (C := R_D) (T := F_D) (N := 20) hx hb hts hk1 hown hK hP 0 rfl rfl 2 (by decide) hk7 (fun _ h9 => h9) rfl d_D_netOf_54 ?_
    refine lv_isub hx hb d_D_netOf_57 ?_
    refine lv_istore_n (lv' := [(3, .int (((d_worth ((10 * x1) + x2).toNatClampNeg) - (d_aging * (d_today - (d_came x1.toNatClampNeg)))) - d_cut)), (0, .ref dq), (1, .int x1), (2, .int x2)]) hx hb d_D_netOf_58 rfl hl (by decide) rfl (fun ls hl => ?_)
    refine lv_aload_n hx hb d_D_netOf_59 rfl (lv_at hl 1 rfl) ?_
    refine va_get (D := (dC, dI)) (ci := 5) (v := .ref dq8) (C := R_D) (T := F_D) (N := 20) hx hb hts hk1 hown hK hP 0 rfl rfl 7 (by decide) hk5 (fun _ h9 => h9) rfl d_D_netOf_60 ?_
    refine lv_iconst (v := 4) hx hb d_D_netOf_63 (by decide) ?_
    refine lv_iload_n hx hb d_D_netOf_64 rfl (lv_at hl 2 rfl) ?_
    refine lv_imul hx hb d_D_netOf_65 ?_
    refine lv_iconst (v := 2) hx hb d_D_netOf_66 (by decide) ?_
    refine lv_iadd hx hb d_D_netOf_67 ?_
    obtain ⟨h9, hm⟩ := gd hm
    refine va_iald hx hb hK hP 1 0 rfl rfl h9 d_D_netOf_68 ?_
    refine lv_aload_n hx hb d_D_netOf_69 rfl (lv_at hl 1 rfl) ?_
    refine va_get (D := (dC, dI)) (ci := 5) (v := .ref dq9) (C := R_D) (T := F_D) (N := 20) hx hb hts hk1 hown hK hP 0 rfl rfl 8 (by decide) hk6 (fun _ h9 => h9) rfl d_D_netOf_70 ?_
    refine lv_iconst (v := 4) hx hb d_D_netOf_73 (by decide) ?_
    refine lv_iload_n hx hb d_D_netOf_74 rfl (lv_at hl 3 rfl) ?_
    refine lv_imul hx hb d_D_netOf_75 ?_
    refine lv_iconst (v := 2) hx hb d_D_netOf_76 (by decide) ?_
    refine lv_iadd hx hb d_D_netOf_77 ?_
    obtain ⟨h9, hm⟩ := gd hm
    refine va_iald hx hb hK hP 2 0 rfl rfl h9 d_D_netOf_78 ?_
    refine lv_icmp_eq (tgt := 89) hx hb d_D_netOf_79 (by decide) (fun c9 => ?_) (fun c9 => ?_)
    · replace hm := if_t c9 hm
      refine lv_iload_n hx hb d_D_netOf_89 rfl (lv_at hl 0 rfl) ?_
      refine lv_if_le (tgt := 97) hx hb d_D_netOf_90 (by decide) (fun c9 => ?_) (fun c9 => ?_)
      · replace hm := if_t c9 hm
        refine lv_iconst (v := 0) hx hb d_D_netOf_97 (by decide) ?_
        cases hm
        exact W.iret hx hb hr (fun t ht hW => ⟨_, rfl, rfl, ht⟩) (fun _ h => nomatch h) d_D_netOf_98
      · replace hm := if_f c9 hm
        refine lv_iload_n hx hb d_D_netOf_93 rfl (lv_at hl 0 rfl) ?_
        refine lv_goto (tgt := 98) hx hb d_D_netOf_94 (by decide) ?_
        cases hm
        exact W.iret hx hb hr (fun t ht hW => ⟨_, rfl, rfl, ht⟩) (fun _ h => nomatch h) d_D_netOf_98
    · replace hm := if_f c9 hm
      refine lv_iload_n hx hb d_D_netOf_82 rfl (lv_at hl 0 rfl) ?_
      refine lv_aload_n hx hb d_D_netOf_83 rfl (lv_at hl 1 rfl) ?_
      refine va_get (D := (dC, dI)) (ci := 5) (v := .int d_cut) (C := R_D) (T := F_D) (N := 20) hx hb hts hk1 hown hK hP 0 rfl rfl 2 (by decide) hk7 (fun _ h9 => h9) rfl d_D_netOf_84 ?_
      refine lv_isub hx hb d_D_netOf_87 ?_
      refine lv_istore_n (lv' := [(3, .int ((((d_worth ((10 * x1) + x2).toNatClampNeg) - (d_aging * (d_today - (d_came x1.toNatClampNeg)))) - d_cut) - d_cut)), (0, .ref dq), (1, .int x1), (2, .int x2)]) hx hb d_D_netOf_88 rfl hl (by decide) rfl (fun ls hl => ?_)
      refine lv_iload_n hx hb d_D_netOf_89 rfl (lv_at hl 0 rfl) ?_
      refine lv_if_le (tgt := 97) hx hb d_D_netOf_90 (by decide) (fun c9 => ?_) (fun c9 => ?_)
      · replace hm := if_t c9 hm
        refine lv_iconst (v := 0) hx hb d_D_netOf_97 (by decide) ?_
        cases hm
        exact W.iret hx hb hr (fun t ht hW => ⟨_, rfl, rfl, ht⟩) (fun _ h => nomatch h) d_D_netOf_98
      · replace hm := if_f c9 hm
        refine lv_iload_n hx hb d_D_netOf_93 rfl (lv_at hl 0 rfl) ?_
        refine lv_goto (tgt := 98) hx hb d_D_netOf_94 (by decide) ?_
        cases hm
        exact W.iret hx hb hr (fun t ht hW => ⟨_, rfl, rfl, ht⟩) (fun _ h => nomatch h) d_D_netOf_98

def w_D_reservation : List Cond := .code y_D_reservation b_D_reservation 2 (some .int) :: W0
theorem q_D_reservation : y_D_reservation.cls = R_D ∧ y_D_reservation.cls ≠ "java/lang/invoke/MethodHandle" ∧ y_D_reservation.cls ≠ "java/lang/invoke/VarHandle" ∧ (parseMethodDescriptor y_D_reservation.desc).map (fun d => d.parameters.length) = some 1 := by decide +kernel
def m_D_reservation (d_today : Int32) (d_reservedFor : Nat → Int32) (d_reservedTo : Nat → Int32) (x1 : Int32) : Option Int32 :=
  (if x1 < 0 ∨ 10 ≤ x1.toNatClampNeg then none else
(if (d_reservedTo x1.toNatClampNeg) < d_today then
  some (-1)
 else
  (if x1 < 0 ∨ 10 ≤ x1.toNatClampNeg then none else
  some (d_reservedFor x1.toNatClampNeg))))
set_option maxHeartbeats 4000000 in
set_option maxRecDepth 100000 in
theorem c_D_reservation (l : Launch) (dC : Nat → ClassId) (dI : Nat → Nat → Nat) (cI cZ cJ : ClassId) (dq dq8 dq9 dq10 dq11 dq12 dq13 dq14 dq15 dq18 dq19 dq20 : Nat) (d_thrown : Int32) (d_today : Int32) (d_cut : Int32) (d_aging : Int32) (d_saleFrom : Int32) (d_pieces : Int32) (d_orders : Int32) (d_piece : Nat → Int32) (d_order : Nat → Int32) (d_came : Nat → Int32) (d_worth : Nat → Int32) (d_used : Nat → Int32) (d_usedBy : Nat → Int32) (d_reservedFor : Nat → Int32) (d_reservedTo : Nat → Int32) (d_ran : Int32) (d_sum : Int32) (d_pieceDual : Nat → Int32) (d_orderDual : Nat → Int32) (d_table : Nat → Int64) (x1 : Int32) (N : Nat) (res : Int32) (hm : m_D_reservation d_today d_reservedFor d_reservedTo x1 = some res) : Met l y_D_reservation w_D_reservation ({ frames := 0, cells := 0, slots := 0, locals := 0 } : Room) (va_Pc [.ref dq, .int x1] (fun U => va_P (dC, dI) classes [(dq, .inr (5, [.int d_thrown, .int d_today, .int d_cut, .int d_aging, .int d_saleFrom, .int d_pieces, .int d_orders, .ref dq8, .ref dq9, .ref dq10, .ref dq11, .ref dq12, .ref dq13, .ref dq14, .ref dq15, .int d_ran, .int d_sum, .ref dq18, .ref dq19, .ref dq20])), (dq8, .inl (cI, 40, .inl d_piece)), (dq9, .inl (cI, 40, .inl d_order)), (dq10, .inl (cI, 10, .inl d_came)), (dq11, .inl (cI, 100, .inl d_worth)), (dq12, .inl (cZ, 10, .inl d_used)), (dq13, .inl (cI, 10, .inl d_usedBy)), (dq14, .inl (cI, 10, .inl d_reservedFor)), (dq15, .inl (cI, 10, .inl d_reservedTo)), (dq18, .inl (cI, 10, .inl d_pieceDual)), (dq19, .inl (cI, 10, .inl d_orderDual)), (dq20, .inl (cJ, 11264, .inr (.inl d_table)))] U.heap ∧ va_K (dC, dI) classes [(cI, .int), (cZ, .boolean), (cJ, .long)] U ∧ nw U)) (vp_Si (fun x => res = x)) 0 0 (fun _ => False) := by
  unfold m_D_reservation at hm
  refine Met.ofW (cc := b_D_reservation) (maxL := 2) (ret := (some .int)) (by decide) rfl ?_
  intro p e s m args below meth c s₁ B hml hv
  obtain ⟨rfl, hP, hK, hN⟩ := hv
  have hx := B.exec
  have hb := B.bytes
  have hr := B.returns
  have hts := atoms_spec (ws := w_D_reservation) B.pre
  have hown : s.vm.findClass R_D = some m.cls := findClass_of_methodNamed B.named
  have hlocks := B.notSynchronized
  have hk0 := hts (.fieldLink R_D 36 "SurplusMatchModel" "reservedTo" "[I") (List.mem_cons_of_mem _ (w0 607 rfl))
  have hk1 : ∀ w ∈ w_D, w ∈ w_D_reservation := fun w h => List.mem_cons_of_mem _ (i_D w h)
  have hk2 := hts (.fieldLink R_D 70 "SurplusMatchModel" "today" "I") (List.mem_cons_of_mem _ (w0 594 rfl))
  have hk3 := hts (.fieldLink R_D 33 "SurplusMatchModel" "reservedFor" "[I") (List.mem_cons_of_mem _ (w0 606 rfl))
  have hl := lv_entry ([.ref dq, .int x1]) (n := 2) (Nat.le_of_ble_eq_true rfl)
  rw [lg_entry_eq]
  generalize (lg_sl ([.ref dq, .int x1]) ++ List.replicate (2 - (lg_sl ([.ref dq, .int x1])).length) Slot.unset).toArray = ls at hl ⊢
  have hl : lv_has ls 2 [(0, .ref dq), (1, .int x1)] := hl
  refine lv_aload_n hx hb d_D_reservation_0 rfl (lv_at hl 0 rfl) ?_
  refine va_get (D := (dC, dI)) (ci := 5) (v := .ref dq15) (C := R_D) (T := F_D) (N := 20) hx hb hts hk1 hown hK hP 0 rfl rfl 14 (by decide) hk0 (fun _ h9 => h9) rfl d_D_reservation_1 ?_
  refine lv_iload_n hx hb d_D_reservation_4 rfl (lv_at hl 1 rfl) ?_
  obtain ⟨h9, hm⟩ := gd hm
  refine va_iald hx hb hK hP 8 0 rfl rfl h9 d_D_reservation_5 ?_
  refine lv_aload_n hx hb d_D_reservation_6 rfl (lv_at hl 0 rfl) ?_
  refine va_get (D := (dC, dI)) (ci := 5) (v := .int d_today) (C := R_D) (T := F_D) (N := 20) hx hb hts hk1 hown hK hP 0 rfl rfl 1 (by decide) hk2 (fun _ h9 => h9) rfl d_D_reservation_7 ?_
  refine lv_icmp_lt (tgt := 22) hx hb d_D_reservation_10 (by decide) (fun c9 => ?_) (fun c9 => ?_)
  · replace hm := if_t c9 hm
    refine lv_iconst (v := (-1)) hx hb d_D_reservation_22 (by decide) ?_
    cases hm
    exact W.iret hx hb hr (fun t ht hW => ⟨_, rfl, rfl, ht⟩) (fun _ h => nomatch h) d_D_reservation_23
  · replace hm := if_f c9 hm
    refine lv_aload_n hx hb d_D_reservation_13 rfl (lv_at hl 0 rfl) ?_
    refine va_get (D := (dC, dI)) (ci := 5) (v := .ref dq14) (C := R_D) (T := F_D) (N := 20) hx hb hts hk1 hown hK hP 0 rfl rfl 13 (by decide) hk3 (fun _ h9 => h9) rfl d_D_reservation_14 ?_
    refine lv_iload_n hx hb d_D_reservation_17 rfl (lv_at hl 1 rfl) ?_
    obtain ⟨h9, hm⟩ := gd hm
    refine va_iald hx hb hK hP 7 0 rfl rfl h9 d_D_reservation_18 ?_
    refine lv_goto (tgt := 23) hx hb d_D_reservation_19 (by decide) ?_
    cases hm
    exact W.iret hx hb hr (fun t ht hW => ⟨_, rfl, rfl, ht⟩) (fun _ h => nomatch h) d_D_reservation_23

def w_D_holder : List Cond := .code y_D_holder b_D_holder 3 (some .int) :: W0
theorem q_D_holder : y_D_holder.cls = R_D ∧ y_D_holder.cls ≠ "java/lang/invoke/MethodHandle" ∧ y_D_holder.cls ≠ "java/lang/invoke/VarHandle" ∧ (parseMethodDescriptor y_D_holder.desc).map (fun d => d.parameters.length) = some 1 := by decide +kernel
def L_D_holder_2 (N : Nat) (d_today : Int32) (d_pieces : Int32) (d_reservedFor : Nat → Int32) (d_reservedTo : Nat → Int32) (K : Int32 → Int32 → Option Int32) : Nat → Int32 → Int32 → Option Int32
  | 0, _, _ => none
  | n + 1, y1a, y2a =>
    (if d_pieces ≤ y2a then
    K y1a y2a
   else
    ((m_D_reservation d_today d_reservedFor d_reservedTo y2a).bind fun r1 =>
      (if r1 = y1a then
        some y2a
       else
        L_D_holder_2 N d_today d_pieces d_reservedFor d_reservedTo K n y1a (y2a + 1))))
def m_D_holder (N : Nat) (d_today : Int32) (d_pieces : Int32) (d_reservedFor : Nat → Int32) (d_reservedTo : Nat → Int32) (x1 : Int32) : Option Int32 :=
  L_D_holder_2 N d_today d_pieces d_reservedFor d_reservedTo (fun y1a y2a =>
  some (-1)) N x1 0
set_option maxHeartbeats 4000000 in
set_option maxRecDepth 100000 in
theorem c_D_holder (l : Launch) (dC : Nat → ClassId) (dI : Nat → Nat → Nat) (cI cZ cJ : ClassId) (dq dq8 dq9 dq10 dq11 dq12 dq13 dq14 dq15 dq18 dq19 dq20 : Nat) (d_thrown : Int32) (d_today : Int32) (d_cut : Int32) (d_aging : Int32) (d_saleFrom : Int32) (d_pieces : Int32) (d_orders : Int32) (d_piece : Nat → Int32) (d_order : Nat → Int32) (d_came : Nat → Int32) (d_worth : Nat → Int32) (d_used : Nat → Int32) (d_usedBy : Nat → Int32) (d_reservedFor : Nat → Int32) (d_reservedTo : Nat → Int32) (d_ran : Int32) (d_sum : Int32) (d_pieceDual : Nat → Int32) (d_orderDual : Nat → Int32) (d_table : Nat → Int64) (x1 : Int32) (N : Nat) (res : Int32) (hm : m_D_holder N d_today d_pieces d_reservedFor d_reservedTo x1 = some res) : Met l y_D_holder w_D_holder ({ frames := 1, cells := 0, slots := 0, locals := 21 } : Room) (va_Pc [.ref dq, .int x1] (fun U => va_P (dC, dI) classes [(dq, .inr (5, [.int d_thrown, .int d_today, .int d_cut, .int d_aging, .int d_saleFrom, .int d_pieces, .int d_orders, .ref dq8, .ref dq9, .ref dq10, .ref dq11, .ref dq12, .ref dq13, .ref dq14, .ref dq15, .int d_ran, .int d_sum, .ref dq18, .ref dq19, .ref dq20])), (dq8, .inl (cI, 40, .inl d_piece)), (dq9, .inl (cI, 40, .inl d_order)), (dq10, .inl (cI, 10, .inl d_came)), (dq11, .inl (cI, 100, .inl d_worth)), (dq12, .inl (cZ, 10, .inl d_used)), (dq13, .inl (cI, 10, .inl d_usedBy)), (dq14, .inl (cI, 10, .inl d_reservedFor)), (dq15, .inl (cI, 10, .inl d_reservedTo)), (dq18, .inl (cI, 10, .inl d_pieceDual)), (dq19, .inl (cI, 10, .inl d_orderDual)), (dq20, .inl (cJ, 11264, .inr (.inl d_table)))] U.heap ∧ va_K (dC, dI) classes [(cI, .int), (cZ, .boolean), (cJ, .long)] U ∧ nw U)) (vp_Si (fun x => res = x)) 0 0 (fun _ => False) := by
  unfold m_D_holder at hm
  refine Met.ofW (cc := b_D_holder) (maxL := 3) (ret := (some .int)) (by decide) rfl ?_
  intro p e s m args below meth c s₁ B hml hv
  obtain ⟨rfl, hP, hK, hN⟩ := hv
  have hx := B.exec
  have hb := B.bytes
  have hr := B.returns
  have hts := atoms_spec (ws := w_D_holder) B.pre
  have hown : s.vm.findClass R_D = some m.cls := findClass_of_methodNamed B.named
  have hlocks := B.notSynchronized
  have hk0 := hts (.fieldLink R_D 52 "SurplusMatchModel" "pieces" "I") (List.mem_cons_of_mem _ (w0 598 rfl))
  have hk1 : ∀ w ∈ w_D, w ∈ w_D_holder := fun w h => List.mem_cons_of_mem _ (i_D w h)
  have hl := lv_entry ([.ref dq, .int x1]) (n := 3) (Nat.le_of_ble_eq_true rfl)
  rw [lg_entry_eq]
  generalize (lg_sl ([.ref dq, .int x1]) ++ List.replicate (3 - (lg_sl ([.ref dq, .int x1])).length) Slot.unset).toArray = ls at hl ⊢
  have hl : lv_has ls 3 [(0, .ref dq), (1, .int x1)] := hl
  refine lv_iconst (v := 0) hx hb d_D_holder_0 (by decide) ?_
  refine lv_istore_n (lv' := [(2, .int 0), (0, .ref dq), (1, .int x1)]) hx hb d_D_holder_1 rfl hl (by decide) rfl (fun ls hl => ?_)
  have key2 : ∀ (K : Int32 → Int32 → Option Int32) (_ : ∀ (y1a : Int32) (y2a : Int32) (ls : Array Slot), lv_has ls 3 [(0, .ref dq), (1, .int y1a), (2, .int y2a)] → K y1a y2a = some res → W p l e (headSpec w_D_holder ({ frames := 1, cells := 0, slots := 0, locals := 21 } : Room)).room s m ([.ref dq, .int x1] : List Value).toArray below meth c s.heap [] 0 0 (MQ below (vp_Si (fun x => res = x)) ([.ref dq, .int x1] : List Value).toArray s 0 0 (fun _ => False)) (F0 m 27 ls [])) (n : Nat) (y1a : Int32) (y2a : Int32) (ls : Array Slot), lv_has ls 3 [(0, .ref dq), (1, .int y1a), (2, .int y2a)] → L_D_holder_2 N d_today d_pieces d_reservedFor d_reservedTo K n y1a y2a = some res → W p l e (headSpec w_D_holder ({ frames := 1, cells := 0, slots := 0, locals := 21 } : Room)).room s m ([.ref dq, .int x1] : List Value).toArray below meth c s.heap [] 0 0 (MQ below (vp_Si (fun x => res = x)) ([.ref dq, .int x1] : List Value).toArray s 0 0 (fun _ => False)) (F0 m 2 ls []) := by
    intro K hK2 n
    induction n with
    | zero => intro y1a y2a ls hl hm; exact absurd hm (by simp [L_D_holder_2])
    | succ n ih2 =>
      intro y1a y2a ls hl hm
      rw [L_D_holder_2] at hm
      refine lv_iload_n hx hb d_D_holder_2 rfl (lv_at hl 2 rfl) ?_
      refine lv_aload_n hx hb d_D_holder_3 rfl (lv_at hl 0 rfl) ?_
      refine va_get (D := (dC, dI)) (ci := 5) (v := .int d_pieces) (C := R_D) (T := F_D) (N := 20) hx hb hts hk1 hown hK hP 0 rfl rfl 5 (by decide) hk0 (fun _ h9 => h9) rfl d_D_holder_4 ?_
      refine lv_icmp_ge (tgt := 27) hx hb d_D_holder_7 (by decide) (fun c9 => ?_) (fun c9 => ?_)
      · replace hm := if_t c9 hm
        have hl : lv_has ls 3 [(0, .ref dq), (1, .int y1a), (2, .int y2a)] := lv_sub hl [0, 1, 2] rfl
        exact hK2 y1a y2a ls hl hm
      · replace hm := if_f c9 hm
        refine lv_aload_n hx hb d_D_holder_10 rfl (lv_at hl 0 rfl) ?_
        refine lv_iload_n hx hb d_D_holder_11 rfl (lv_at hl 2 rfl) ?_
        obtain ⟨r1, hc, hm⟩ := bd hm
        try dsimp only at hm
        refine vp_callSi (W.runV (As := [.int y2a]) (rest := []) ⟨hx, hb, hml, hown, hts⟩ (c_D_reservation l dC dI cI cZ cJ dq dq8 dq9 dq10 dq11 dq12 dq13 dq14 dq15 dq18 dq19 dq20 d_thrown d_today d_cut d_aging d_saleFrom d_pieces d_orders d_piece d_order d_came d_worth d_used d_usedBy d_reservedFor d_reservedTo d_ran d_sum d_pieceDual d_orderDual d_table y2a N r1 hc) (cwV 1 hts (gV (w0 716 rfl) (w0 717 rfl) (w0 25 rfl) (w0 33 rfl) (w0 718 rfl)) rfl rfl rfl q_D_reservation ⟨Nat.le_of_ble_eq_true rfl, Nat.le_of_ble_eq_true rfl⟩) (ro_preV [0, 1, 2, 3, 4, 5, 6, 7, 8, 9, 10, 11] rfl hK hP hN 5 0 (R_D, F_D, 20) rfl rfl) rfl rfl hl.1 rfl (lv_room (Nat.le_of_ble_eq_true rfl)) d_D_holder_12 ⟨Nat.le_of_ble_eq_true rfl, Nat.le_of_ble_eq_true rfl⟩) (fun r9 hr9 => ?_)
        subst hr9
        refine lv_iload_n hx hb d_D_holder_15 rfl (lv_at hl 1 rfl) ?_
        refine lv_icmp_ne (tgt := 21) hx hb d_D_holder_16 (by decide) (fun c9 => ?_) (fun c9 => ?_)
        · replace hm := if_f c9 hm
          refine lv_iinc (v := (y2a + 1)) (lv' := [(2, .int (y2a + 1)), (0, .ref dq), (1, .int y1a)]) hx hb d_D_holder_21 hl (k := 2) rfl rfl (by decide) rfl (fun ls hl => ?_)
          refine lv_goto (tgt := 2) hx hb d_D_holder_24 (by decide) ?_
          have hl : lv_has ls 3 [(0, .ref dq), (1, .int y1a), (2, .int (y2a + 1))] := lv_sub hl [1, 2, 0] rfl
          exact ih2 y1a (y2a + 1) ls hl hm
        · replace hm := if_t c9 hm
          refine lv_iload_n hx hb d_D_holder_19 rfl (lv_at hl 2 rfl) ?_
          cases hm
          exact W.iret hx hb hr (fun t ht hW => ⟨_, rfl, rfl, ht⟩) (fun _ h => nomatch h) d_D_holder_20
  have hl : lv_has ls 3 [(0, .ref dq), (1, .int x1), (2, .int 0)] := lv_sub hl [1, 2, 0] rfl
  refine key2 _ (fun y1a y2a ls hl hm => ?_) N x1 0 ls hl hm
  try dsimp only at hm
  refine lv_iconst (v := (-1)) hx hb d_D_holder_27 (by decide) ?_
  cases hm
  exact W.iret hx hb hr (fun t ht hW => ⟨_, rfl, rfl, ht⟩) (fun _ h => nomatch h) d_D_holder_28

def w_D_can : List Cond := .code y_D_can b_D_can 5 (some .boolean) :: W0
theorem q_D_can : y_D_can.cls = R_D ∧ y_D_can.cls ≠ "java/lang/invoke/MethodHandle" ∧ y_D_can.cls ≠ "java/lang/invoke/VarHandle" ∧ (parseMethodDescriptor y_D_can.desc).map (fun d => d.parameters.length) = some 2 := by decide +kernel
def m_D_can (N : Nat) (d_today : Int32) (d_pieces : Int32) (d_piece : Nat → Int32) (d_order : Nat → Int32) (d_used : Nat → Int32) (d_usedBy : Nat → Int32) (d_reservedFor : Nat → Int32) (d_reservedTo : Nat → Int32) (x1 : Int32) (x2 : Int32) : Option Int32 :=
  (if x1 < 0 ∨ 10 ≤ x1.toNatClampNeg then none else
(if (d_used x1.toNatClampNeg) = 0 then
  (if x2 < 0 ∨ 10 ≤ x2.toNatClampNeg then none else
  (if 0 ≤ (d_usedBy x2.toNatClampNeg) then
    some 0
   else
    ((m_D_isFit d_piece d_order x1 x2).bind fun r1 =>
      (if r1 = 0 then
        some 0
       else
        ((m_D_reservation d_today d_reservedFor d_reservedTo x1).bind fun r2 =>
          ((m_D_holder N d_today d_pieces d_reservedFor d_reservedTo x2).bind fun r3 =>
            (if r2 < 0 then
              (if r3 < 0 then
                some 1
               else
                (if r3 = x1 then
                  some 1
                 else
                  some 0))
             else
              (if r2 = x2 then
                (if r3 < 0 then
                  some 1
                 else
                  (if r3 = x1 then
                    some 1
                   else
                    some 0))
               else
                some 0))))))))
 else
  some 0))
set_option maxHeartbeats 4000000 in
set_option maxRecDepth 100000 in
theorem c_D_can (l : Launch) (dC : Nat → ClassId) (dI : Nat → Nat → Nat) (cI cZ cJ : ClassId) (dq dq8 dq9 dq10 dq11 dq12 dq13 dq14 dq15 dq18 dq19 dq20 : Nat) (d_thrown : Int32) (d_today : Int32) (d_cut : Int32) (d_aging : Int32) (d_saleFrom : Int32) (d_pieces : Int32) (d_orders : Int32) (d_piece : Nat → Int32) (d_order : Nat → Int32) (d_came : Nat → Int32) (d_worth : Nat → Int32) (d_used : Nat → Int32) (d_usedBy : Nat → Int32) (d_reservedFor : Nat → Int32) (d_reservedTo : Nat → Int32) (d_ran : Int32) (d_sum : Int32) (d_pieceDual : Nat → Int32) (d_orderDual : Nat → Int32) (d_table : Nat → Int64) (x1 : Int32) (x2 : Int32) (N : Nat) (res : Int32) (hm : m_D_can N d_today d_pieces d_piece d_order d_used d_usedBy d_reservedFor d_reservedTo x1 x2 = some res) : Met l y_D_can w_D_can ({ frames := 2, cells := 0, slots := 0, locals := 43 } : Room) (va_Pc [.ref dq, .int x1, .int x2] (fun U => va_P (dC, dI) classes [(dq, .inr (5, [.int d_thrown, .int d_today, .int d_cut, .int d_aging, .int d_saleFrom, .int d_pieces, .int d_orders, .ref dq8, .ref dq9, .ref dq10, .ref dq11, .ref dq12, .ref dq13, .ref dq14, .ref dq15, .int d_ran, .int d_sum, .ref dq18, .ref dq19, .ref dq20])), (dq8, .inl (cI, 40, .inl d_piece)), (dq9, .inl (cI, 40, .inl d_order)), (dq10, .inl (cI, 10, .inl d_came)), (dq11, .inl (cI, 100, .inl d_worth)), (dq12, .inl (cZ, 10, .inl d_used)), (dq13, .inl (cI, 10, .inl d_usedBy)), (dq14, .inl (cI, 10, .inl d_reservedFor)), (dq15, .inl (cI, 10, .inl d_reservedTo)), (dq18, .inl (cI, 10, .inl d_pieceDual)), (dq19, .inl (cI, 10, .inl d_orderDual)), (dq20, .inl (cJ, 11264, .inr (.inl d_table)))] U.heap ∧ va_K (dC, dI) classes [(cI, .int), (cZ, .boolean), (cJ, .long)] U ∧ nw U)) (vp_Si (fun x => res = x)) 0 0 (fun _ => False) := by
  unfold m_D_can at hm
  refine Met.ofW (cc := b_D_can) (maxL := 5) (ret := (some .boolean)) (by decide) rfl ?_
  intro p e s m args below meth c s₁ B hml hv
  obtain ⟨rfl, hP, hK, hN⟩ := hv
  have hx := B.exec
  have hb := B.bytes
  have hr := B.returns
  have hts := atoms_spec (ws := w_D_can) B.pre
  have hown : s.vm.findClass R_D = some m.cls := findClass_of_methodNamed B.named
  have hlocks := B.notSynchronized
  have hk0 := hts (.fieldLink R_D 26 "SurplusMatchModel" "used" "[Z") (List.mem_cons_of_mem _ (w0 604 rfl))
  have hk1 : ∀ w ∈ w_D, w ∈ w_D_can := fun w h => List.mem_cons_of_mem _ (i_D w h)
  have hk2 := hts (.fieldLink R_D 30 "SurplusMatchModel" "usedBy" "[I") (List.mem_cons_of_mem _ (w0 605 rfl))
  have hl := lv_entry ([.ref dq, .int x1, .int x2]) (n := 5) (Nat.le_of_ble_eq_true rfl)
  rw [lg_entry_eq]
  generalize (lg_sl ([.ref dq, .int x1, .int x2]) ++ List.replicate (5 - (lg_sl ([.ref dq, .int x1, .int x2])).length) Slot.unset).toArray = ls at hl ⊢
  have hl : lv_has ls 5 [(0, .ref dq), (1, .int x1), (2, .int x2)] := hl
  refine lv_aload_n hx hb d_D_can_0 rfl (lv_at hl 0 rfl) ?_
  refine va_get (D := (dC, dI)) (ci := 5) (v := .ref dq12) (C := R_D) (T := F_D) (N := 20) hx hb hts hk1 hown hK hP 0 rfl rfl 11 (by decide) hk0 (fun _ h9 => h9) rfl d_D_can_1 ?_
  refine lv_iload_n hx hb d_D_can_4 rfl (lv_at hl 1 rfl) ?_
  obtain ⟨h9, hm⟩ := gd hm
  refine va_zald hx hb hK hP 5 1 rfl rfl h9 d_D_can_5 ?_
  refine lv_if_ne (tgt := 27) hx hb d_D_can_6 (by decide) (fun c9 => ?_) (fun c9 => ?_)
  · replace hm := if_f c9 hm
    refine lv_iconst (v := 0) hx hb d_D_can_27 (by decide) ?_
    cases hm
    exact W.zret hx hb hr (by decide) (fun t ht hW => ⟨_, rfl, rfl, ht⟩) (fun _ h => nomatch h) d_D_can_28
  · replace hm := if_t c9 hm
    refine lv_aload_n hx hb d_D_can_9 rfl (lv_at hl 0 rfl) ?_
    refine va_get (D := (dC, dI)) (ci := 5) (v := .ref dq13) (C := R_D) (T := F_D) (N := 20) hx hb hts hk1 hown hK hP 0 rfl rfl 12 (by decide) hk2 (fun _ h9 => h9) rfl d_D_can_10 ?_
    refine lv_iload_n hx hb d_D_can_13 rfl (lv_at hl 2 rfl) ?_
    obtain ⟨h9, hm⟩ := gd hm
    refine va_iald hx hb hK hP 6 0 rfl rfl h9 d_D_can_14 ?_
    refine lv_if_ge (tgt := 27) hx hb d_D_can_15 (by decide) (fun c9 => ?_) (fun c9 => ?_)
    · replace hm := if_t c9 hm
      refine lv_iconst (v := 0) hx hb d_D_can_27 (by decide) ?_
      cases hm
      exact W.zret hx hb hr (by decide) (fun t ht hW => ⟨_, rfl, rfl, ht⟩) (fun _ h => nomatch h) d_D_can_28
    · replace hm := if_f c9 hm
      refine lv_aload_n hx hb d_D_can_18 rfl (lv_at hl 0 rfl) ?_
      refine lv_iload_n hx hb d_D_can_19 rfl (lv_at hl 1 rfl) ?_
      refine lv_iload_n hx hb d_D_can_20 rfl (lv_at hl 2 rfl) ?_
      obtain ⟨r1, hc, hm⟩ := bd hm
      try dsimp only at hm
      refine vp_callSi (W.runV (As := [.int x1, .int x2]) (rest := []) ⟨hx, hb, hml, hown, hts⟩ (c_D_isFit l dC dI cI cZ cJ dq dq8 dq9 dq10 dq11 dq12 dq13 dq14 dq15 dq18 dq19 dq20 d_thrown d_today d_cut d_aging d_saleFrom d_pieces d_orders d_piece d_order d_came d_worth d_used d_usedBy d_reservedFor d_reservedTo d_ran d_sum d_pieceDual d_orderDual d_table x1 x2 N r1 hc) (cwV 2 hts (gV (w0 688 rfl) (w0 689 rfl) (w0 21 rfl) (w0 33 rfl) (w0 690 rfl)) rfl rfl rfl q_D_isFit ⟨Nat.le_of_ble_eq_true rfl, Nat.le_of_ble_eq_true rfl⟩) (ro_preV [0, 1, 2, 3, 4, 5, 6, 7, 8, 9, 10, 11] rfl hK hP hN 5 0 (R_D, F_D, 20) rfl rfl) rfl rfl hl.1 rfl (lv_room (Nat.le_of_ble_eq_true rfl)) d_D_can_21 ⟨Nat.le_of_ble_eq_true rfl, Nat.le_of_ble_eq_true rfl⟩) (fun r9 hr9 => ?_)
      subst hr9
      refine lv_if_ne (tgt := 29) hx hb d_D_can_24 (by decide) (fun c9 => ?_) (fun c9 => ?_)
      · replace hm := if_f c9 hm
        refine lv_aload_n hx hb d_D_can_29 rfl (lv_at hl 0 rfl) ?_
        refine lv_iload_n hx hb d_D_can_30 rfl (lv_at hl 1 rfl) ?_
        obtain ⟨r2, hc, hm⟩ := bd hm
        try dsimp only at hm
        refine vp_callSi (W.runV (As := [.int x1]) (rest := []) ⟨hx, hb, hml, hown, hts⟩ (c_D_reservation l dC dI cI cZ cJ dq dq8 dq9 dq10 dq11 dq12 dq13 dq14 dq15 dq18 dq19 dq20 d_thrown d_today d_cut d_aging d_saleFrom d_pieces d_orders d_piece d_order d_came d_worth d_used d_usedBy d_reservedFor d_reservedTo d_ran d_sum d_pieceDual d_orderDual d_table x1 N r2 hc) (cwV 1 hts (gV (w0 716 rfl) (w0 717 rfl) (w0 25 rfl) (w0 33 rfl) (w0 718 rfl)) rfl rfl rfl q_D_reservation ⟨Nat.le_of_ble_eq_true rfl, Nat.le_of_ble_eq_true rfl⟩) (ro_preV [0, 1, 2, 3, 4, 5, 6, 7, 8, 9, 10, 11] rfl hK hP hN 5 0 (R_D, F_D, 20) rfl rfl) rfl rfl hl.1 rfl (lv_room (Nat.le_of_ble_eq_true rfl)) d_D_can_31 ⟨Nat.le_of_ble_eq_true rfl, Nat.le_of_ble_eq_true rfl⟩) (fun r9 hr9 => ?_)
        subst hr9
        refine lv_istore_n (lv' := [(3, .int r2), (0, .ref dq), (1, .int x1), (2, .int x2)]) hx hb d_D_can_34 rfl hl (by decide) rfl (fun ls hl => ?_)
        refine lv_aload_n hx hb d_D_can_35 rfl (lv_at hl 1 rfl) ?_
        refine lv_iload_n hx hb d_D_can_36 rfl (lv_at hl 3 rfl) ?_
        obtain ⟨r3, hc, hm⟩ := bd hm
        try dsimp only at hm
        refine vp_callSi (W.runV (As := [.int x2]) (rest := []) ⟨hx, hb, hml, hown, hts⟩ (c_D_holder l dC dI cI cZ cJ dq dq8 dq9 dq10 dq11 dq12 dq13 dq14 dq15 dq18 dq19 dq20 d_thrown d_today d_cut d_aging d_saleFrom d_pieces d_orders d_piece d_order d_came d_worth d_used d_usedBy d_reservedFor d_reservedTo d_ran d_sum d_pieceDual d_orderDual d_table x2 N r3 hc) (cwV 1 hts (gV (w0 719 rfl) (w0 720 rfl) (w0 26 rfl) (w0 33 rfl) (w0 721 rfl)) rfl rfl rfl q_D_holder ⟨Nat.le_of_ble_eq_true rfl, Nat.le_of_ble_eq_true rfl⟩) (ro_preV [0, 1, 2, 3, 4, 5, 6, 7, 8, 9, 10, 11] rfl hK hP hN 5 0 (R_D, F_D, 20) rfl rfl) rfl rfl hl.1 rfl (lv_room (Nat.le_of_ble_eq_true rfl)) d_D_can_37 ⟨Nat.le_of_ble_eq_true rfl, Nat.le_of_ble_eq_true rfl⟩) (fun r9 hr9 => ?_)
        subst hr9
        refine lv_istore (lv' := [(4, .int r3), (3, .int r2), (0, .ref dq), (1, .int x1), (2, .int x2)]) hx hb d_D_can_40 hl (by decide) rfl (fun ls hl => ?_)
        refine lv_iload_n hx hb d_D_can_42 rfl (lv_at hl 1 rfl) ?_
        refine lv_if_lt (tgt := 51) hx hb d_D_can_43 (by decide) (fun c9 => ?_) (fun c9 => ?_)
        · replace hm := if_t c9 hm
          refine lv_iload hx hb d_D_can_51 (lv_at hl 0 rfl) ?_
          refine lv_if_lt (tgt := 62) hx hb d_D_can_53 (by decide) (fun c9 => ?_) (fun c9 => ?_)
          · replace hm := if_t c9 hm
            refine lv_iconst (v := 1) hx hb d_D_can_62 (by decide) ?_
            refine lv_goto (tgt := 67) hx hb d_D_can_63 (by decide) ?_
            cases hm
            exact W.zret hx hb hr (by decide) (fun t ht hW => ⟨_, rfl, rfl, ht⟩) (fun _ h => nomatch h) d_D_can_67
          · replace hm := if_f c9 hm
            refine lv_iload hx hb d_D_can_56 (lv_at hl 0 rfl) ?_
            refine lv_iload_n hx hb d_D_can_58 rfl (lv_at hl 3 rfl) ?_
            refine lv_icmp_ne (tgt := 66) hx hb d_D_can_59 (by decide) (fun c9 => ?_) (fun c9 => ?_)
            · replace hm := if_f c9 hm
              refine lv_iconst (v := 0) hx hb d_D_can_66 (by decide) ?_
              cases hm
              exact W.zret hx hb hr (by decide) (fun t ht hW => ⟨_, rfl, rfl, ht⟩) (fun _ h => nomatch h) d_D_can_67
            · replace hm := if_t c9 hm
              refine lv_iconst (v := 1) hx hb d_D_can_62 (by decide) ?_
              refine lv_goto (tgt := 67) hx hb d_D_can_63 (by decide) ?_
              cases hm
              exact W.zret hx hb hr (by decide) (fun t ht hW => ⟨_, rfl, rfl, ht⟩) (fun _ h => nomatch h) d_D_can_67
        · replace hm := if_f c9 hm
          refine lv_iload_n hx hb d_D_can_46 rfl (lv_at hl 1 rfl) ?_
          refine lv_iload_n hx hb d_D_can_47 rfl (lv_at hl 4 rfl) ?_
          refine lv_icmp_ne (tgt := 66) hx hb d_D_can_48 (by decide) (fun c9 => ?_) (fun c9 => ?_)
          · replace hm := if_f c9 hm
            refine lv_iconst (v := 0) hx hb d_D_can_66 (by decide) ?_
            cases hm
            exact W.zret hx hb hr (by decide) (fun t ht hW => ⟨_, rfl, rfl, ht⟩) (fun _ h => nomatch h) d_D_can_67
          · replace hm := if_t c9 hm
            refine lv_iload hx hb d_D_can_51 (lv_at hl 0 rfl) ?_
            refine lv_if_lt (tgt := 62) hx hb d_D_can_53 (by decide) (fun c9 => ?_) (fun c9 => ?_)
            · replace hm := if_t c9 hm
              refine lv_iconst (v := 1) hx hb d_D_can_62 (by decide) ?_
              refine lv_goto (tgt := 67) hx hb d_D_can_63 (by decide) ?_
              cases hm
              exact W.zret hx hb hr (by decide) (fun t ht hW => ⟨_, rfl, rfl, ht⟩) (fun _ h => nomatch h) d_D_can_67
            · replace hm := if_f c9 hm
              refine lv_iload hx hb d_D_can_56 (lv_at hl 0 rfl) ?_
              refine lv_iload_n hx hb d_D_can_58 rfl (lv_at hl 3 rfl) ?_
              refine lv_icmp_ne (tgt := 66) hx hb d_D_can_59 (by decide) (fun c9 => ?_) (fun c9 => ?_)
              · replace hm := if_f c9 hm
                refine lv_iconst (v := 0) hx hb d_D_can_66 (by decide) ?_
                cases hm
                exact W.zret hx hb hr (by decide) (fun t ht hW => ⟨_, rfl, rfl, ht⟩) (fun _ h => nomatch h) d_D_can_67
              · replace hm := if_t c9 hm
                refine lv_iconst (v := 1) hx hb d_D_can_62 (by decide) ?_
                refine lv_goto (tgt := 67) hx hb d_D_can_63 (by decide) ?_
                cases hm
                exact W.zret hx hb hr (by decide) (fun t ht hW => ⟨_, rfl, rfl, ht⟩) (fun _ h => nomatch h) d_D_can_67
      · replace hm := if_t c9 hm
        refine lv_iconst (v := 0) hx hb d_D_can_27 (by decide) ?_
        cases hm
        exact W.zret hx hb hr (by decide) (fun t ht hW => ⟨_, rfl, rfl, ht⟩) (fun _ h => nomatch h) d_D_can_28

