theorem d_S_ageOf_0 : decode b_S_ageOf 0 = .ok (.aload_n 0, 1) := by decide +kernel
theorem d_S_ageOf_1 : decode b_S_ageOf 1 = .ok (.getfield 62, 3) := by decide +kernel
theorem d_S_ageOf_4 : decode b_S_ageOf 4 = .ok (.aload_n 0, 1) := by decide +kernel
theorem d_S_ageOf_5 : decode b_S_ageOf 5 = .ok (.getfield 19, 3) := by decide +kernel
theorem d_S_ageOf_8 : decode b_S_ageOf 8 = .ok (.iload_n 1, 1) := by decide +kernel
theorem d_S_ageOf_9 : decode b_S_ageOf 9 = .ok (.iaload, 1) := by decide +kernel
theorem d_S_ageOf_10 : decode b_S_ageOf 10 = .ok (.isub, 1) := by decide +kernel
theorem d_S_ageOf_11 : decode b_S_ageOf 11 = .ok (.ireturn, 1) := by decide +kernel
theorem d_S_worthToday_0 : decode b_S_worthToday 0 = .ok (.aload_n 0, 1) := by decide +kernel
theorem d_S_worthToday_1 : decode b_S_worthToday 1 = .ok (.getfield 94, 3) := by decide +kernel
theorem d_S_worthToday_4 : decode b_S_worthToday 4 = .ok (.aload_n 0, 1) := by decide +kernel
theorem d_S_worthToday_5 : decode b_S_worthToday 5 = .ok (.getfield 10, 3) := by decide +kernel
theorem d_S_worthToday_8 : decode b_S_worthToday 8 = .ok (.iload_n 1, 1) := by decide +kernel
theorem d_S_worthToday_9 : decode b_S_worthToday 9 = .ok (.aload_n 0, 1) := by decide +kernel
theorem d_S_worthToday_10 : decode b_S_worthToday 10 = .ok (.getfield 16, 3) := by decide +kernel
theorem d_S_worthToday_13 : decode b_S_worthToday 13 = .ok (.iload_n 2, 1) := by decide +kernel
theorem d_S_worthToday_14 : decode b_S_worthToday 14 = .ok (.invokevirtual 236, 3) := by decide +kernel
theorem d_S_worthToday_17 : decode b_S_worthToday 17 = .ok (.imul, 1) := by decide +kernel
theorem d_S_worthToday_18 : decode b_S_worthToday 18 = .ok (.aload_n 0, 1) := by decide +kernel
theorem d_S_worthToday_19 : decode b_S_worthToday 19 = .ok (.getfield 97, 3) := by decide +kernel
theorem d_S_worthToday_22 : decode b_S_worthToday 22 = .ok (.aload_n 0, 1) := by decide +kernel
theorem d_S_worthToday_23 : decode b_S_worthToday 23 = .ok (.iload_n 1, 1) := by decide +kernel
theorem d_S_worthToday_24 : decode b_S_worthToday 24 = .ok (.invokevirtual 240, 3) := by decide +kernel
theorem d_S_worthToday_27 : decode b_S_worthToday 27 = .ok (.imul, 1) := by decide +kernel
theorem d_S_worthToday_28 : decode b_S_worthToday 28 = .ok (.iadd, 1) := by decide +kernel
theorem d_S_worthToday_29 : decode b_S_worthToday 29 = .ok (.istore_n 3, 1) := by decide +kernel
theorem d_S_worthToday_30 : decode b_S_worthToday 30 = .ok (.iconst 0, 1) := by decide +kernel
theorem d_S_worthToday_31 : decode b_S_worthToday 31 = .ok (.aload_n 0, 1) := by decide +kernel
theorem d_S_worthToday_32 : decode b_S_worthToday 32 = .ok (.getfield 23, 3) := by decide +kernel
theorem d_S_worthToday_35 : decode b_S_worthToday 35 = .ok (.iload_n 1, 1) := by decide +kernel
theorem d_S_worthToday_36 : decode b_S_worthToday 36 = .ok (.iload_n 2, 1) := by decide +kernel
theorem d_S_worthToday_37 : decode b_S_worthToday 37 = .ok (.invokestatic 84, 3) := by decide +kernel
theorem d_S_worthToday_40 : decode b_S_worthToday 40 = .ok (.iaload, 1) := by decide +kernel
theorem d_S_worthToday_41 : decode b_S_worthToday 41 = .ok (.iload_n 3, 1) := by decide +kernel
theorem d_S_worthToday_42 : decode b_S_worthToday 42 = .ok (.isub, 1) := by decide +kernel
theorem d_S_worthToday_43 : decode b_S_worthToday 43 = .ok (.invokestatic 243, 3) := by decide +kernel
theorem d_S_worthToday_46 : decode b_S_worthToday 46 = .ok (.ireturn, 1) := by decide +kernel
theorem d_S_isForSale_0 : decode b_S_isForSale 0 = .ok (.aload_n 0, 1) := by decide +kernel
theorem d_S_isForSale_1 : decode b_S_isForSale 1 = .ok (.getfield 29, 3) := by decide +kernel
theorem d_S_isForSale_4 : decode b_S_isForSale 4 = .ok (.iload_n 1, 1) := by decide +kernel
theorem d_S_isForSale_5 : decode b_S_isForSale 5 = .ok (.invokevirtual 160, 3) := by decide +kernel
theorem d_S_isForSale_8 : decode b_S_isForSale 8 = .ok (.ifCond .ne 30, 3) := by decide +kernel
theorem d_S_isForSale_11 : decode b_S_isForSale 11 = .ok (.aload_n 0, 1) := by decide +kernel
theorem d_S_isForSale_12 : decode b_S_isForSale 12 = .ok (.getfield 36, 3) := by decide +kernel
theorem d_S_isForSale_15 : decode b_S_isForSale 15 = .ok (.iload_n 1, 1) := by decide +kernel
theorem d_S_isForSale_16 : decode b_S_isForSale 16 = .ok (.invokevirtual 163, 3) := by decide +kernel
theorem d_S_isForSale_19 : decode b_S_isForSale 19 = .ok (.ifCond .ne 19, 3) := by decide +kernel
theorem d_S_isForSale_22 : decode b_S_isForSale 22 = .ok (.aload_n 0, 1) := by decide +kernel
theorem d_S_isForSale_23 : decode b_S_isForSale 23 = .ok (.iload_n 1, 1) := by decide +kernel
theorem d_S_isForSale_24 : decode b_S_isForSale 24 = .ok (.invokevirtual 240, 3) := by decide +kernel
theorem d_S_isForSale_27 : decode b_S_isForSale 27 = .ok (.aload_n 0, 1) := by decide +kernel
theorem d_S_isForSale_28 : decode b_S_isForSale 28 = .ok (.getfield 47, 3) := by decide +kernel
theorem d_S_isForSale_31 : decode b_S_isForSale 31 = .ok (.if_icmp .lt 7, 3) := by decide +kernel
theorem d_S_isForSale_34 : decode b_S_isForSale 34 = .ok (.iconst 1, 1) := by decide +kernel
theorem d_S_isForSale_35 : decode b_S_isForSale 35 = .ok (.goto 4, 3) := by decide +kernel
theorem d_S_isForSale_38 : decode b_S_isForSale 38 = .ok (.iconst 0, 1) := by decide +kernel
theorem d_S_isForSale_39 : decode b_S_isForSale 39 = .ok (.ireturn, 1) := by decide +kernel
theorem d_S_mayPair_0 : decode b_S_mayPair 0 = .ok (.aload_n 0, 1) := by decide +kernel
theorem d_S_mayPair_1 : decode b_S_mayPair 1 = .ok (.getfield 29, 3) := by decide +kernel
theorem d_S_mayPair_4 : decode b_S_mayPair 4 = .ok (.iload_n 1, 1) := by decide +kernel
theorem d_S_mayPair_5 : decode b_S_mayPair 5 = .ok (.invokevirtual 160, 3) := by decide +kernel
theorem d_S_mayPair_8 : decode b_S_mayPair 8 = .ok (.ifCond .ne 46, 3) := by decide +kernel
theorem d_S_mayPair_11 : decode b_S_mayPair 11 = .ok (.aload_n 0, 1) := by decide +kernel
theorem d_S_mayPair_12 : decode b_S_mayPair 12 = .ok (.getfield 29, 3) := by decide +kernel
theorem d_S_mayPair_15 : decode b_S_mayPair 15 = .ok (.iload_n 2, 1) := by decide +kernel
theorem d_S_mayPair_16 : decode b_S_mayPair 16 = .ok (.invokevirtual 182, 3) := by decide +kernel
theorem d_S_mayPair_19 : decode b_S_mayPair 19 = .ok (.ifCond .ne 35, 3) := by decide +kernel
theorem d_S_mayPair_22 : decode b_S_mayPair 22 = .ok (.aload_n 0, 1) := by decide +kernel
theorem d_S_mayPair_23 : decode b_S_mayPair 23 = .ok (.getfield 36, 3) := by decide +kernel
theorem d_S_mayPair_26 : decode b_S_mayPair 26 = .ok (.iload_n 1, 1) := by decide +kernel
theorem d_S_mayPair_27 : decode b_S_mayPair 27 = .ok (.iload_n 2, 1) := by decide +kernel
theorem d_S_mayPair_28 : decode b_S_mayPair 28 = .ok (.invokevirtual 248, 3) := by decide +kernel
theorem d_S_mayPair_31 : decode b_S_mayPair 31 = .ok (.ifCond .eq 23, 3) := by decide +kernel
theorem d_S_mayPair_34 : decode b_S_mayPair 34 = .ok (.aload_n 0, 1) := by decide +kernel
theorem d_S_mayPair_35 : decode b_S_mayPair 35 = .ok (.getfield 10, 3) := by decide +kernel
theorem d_S_mayPair_38 : decode b_S_mayPair 38 = .ok (.iload_n 1, 1) := by decide +kernel
theorem d_S_mayPair_39 : decode b_S_mayPair 39 = .ok (.aload_n 0, 1) := by decide +kernel
theorem d_S_mayPair_40 : decode b_S_mayPair 40 = .ok (.getfield 16, 3) := by decide +kernel
theorem d_S_mayPair_43 : decode b_S_mayPair 43 = .ok (.iload_n 2, 1) := by decide +kernel
theorem d_S_mayPair_44 : decode b_S_mayPair 44 = .ok (.invokevirtual 100, 3) := by decide +kernel
theorem d_S_mayPair_47 : decode b_S_mayPair 47 = .ok (.ifCond .eq 7, 3) := by decide +kernel
theorem d_S_mayPair_50 : decode b_S_mayPair 50 = .ok (.iconst 1, 1) := by decide +kernel
theorem d_S_mayPair_51 : decode b_S_mayPair 51 = .ok (.goto 4, 3) := by decide +kernel
theorem d_S_mayPair_54 : decode b_S_mayPair 54 = .ok (.iconst 0, 1) := by decide +kernel
theorem d_S_mayPair_55 : decode b_S_mayPair 55 = .ok (.ireturn, 1) := by decide +kernel
theorem d_S_cutPiece_0 : decode b_S_cutPiece 0 = .ok (.aload_n 0, 1) := by decide +kernel
theorem d_S_cutPiece_1 : decode b_S_cutPiece 1 = .ok (.getfield 29, 3) := by decide +kernel
theorem d_S_cutPiece_4 : decode b_S_cutPiece 4 = .ok (.iload_n 1, 1) := by decide +kernel
theorem d_S_cutPiece_5 : decode b_S_cutPiece 5 = .ok (.iload_n 2, 1) := by decide +kernel
theorem d_S_cutPiece_6 : decode b_S_cutPiece 6 = .ok (.invokevirtual 252, 3) := by decide +kernel
theorem d_S_cutPiece_9 : decode b_S_cutPiece 9 = .ok (.aload_n 0, 1) := by decide +kernel
theorem d_S_cutPiece_10 : decode b_S_cutPiece 10 = .ok (.getfield 36, 3) := by decide +kernel
theorem d_S_cutPiece_13 : decode b_S_cutPiece 13 = .ok (.iload_n 1, 1) := by decide +kernel
theorem d_S_cutPiece_14 : decode b_S_cutPiece 14 = .ok (.invokevirtual 255, 3) := by decide +kernel
theorem d_S_cutPiece_17 : decode b_S_cutPiece 17 = .ok (.return_, 1) := by decide +kernel
theorem d_S_offerPairs_0 : decode b_S_offerPairs 0 = .ok (.aload_n 0, 1) := by decide +kernel
theorem d_S_offerPairs_1 : decode b_S_offerPairs 1 = .ok (.getfield 43, 3) := by decide +kernel
theorem d_S_offerPairs_4 : decode b_S_offerPairs 4 = .ok (.invokevirtual 258, 3) := by decide +kernel
theorem d_S_offerPairs_7 : decode b_S_offerPairs 7 = .ok (.iconst 0, 1) := by decide +kernel
theorem d_S_offerPairs_8 : decode b_S_offerPairs 8 = .ok (.istore_n 1, 1) := by decide +kernel
theorem d_S_offerPairs_9 : decode b_S_offerPairs 9 = .ok (.iload_n 1, 1) := by decide +kernel
theorem d_S_offerPairs_10 : decode b_S_offerPairs 10 = .ok (.aload_n 0, 1) := by decide +kernel
theorem d_S_offerPairs_11 : decode b_S_offerPairs 11 = .ok (.getfield 10, 3) := by decide +kernel
theorem d_S_offerPairs_14 : decode b_S_offerPairs 14 = .ok (.invokevirtual 110, 3) := by decide +kernel
theorem d_S_offerPairs_17 : decode b_S_offerPairs 17 = .ok (.if_icmp .ge 52, 3) := by decide +kernel
theorem d_S_offerPairs_20 : decode b_S_offerPairs 20 = .ok (.iconst 0, 1) := by decide +kernel
theorem d_S_offerPairs_21 : decode b_S_offerPairs 21 = .ok (.istore_n 2, 1) := by decide +kernel
theorem d_S_offerPairs_22 : decode b_S_offerPairs 22 = .ok (.iload_n 2, 1) := by decide +kernel
theorem d_S_offerPairs_23 : decode b_S_offerPairs 23 = .ok (.aload_n 0, 1) := by decide +kernel
theorem d_S_offerPairs_24 : decode b_S_offerPairs 24 = .ok (.getfield 16, 3) := by decide +kernel
theorem d_S_offerPairs_27 : decode b_S_offerPairs 27 = .ok (.invokevirtual 110, 3) := by decide +kernel
theorem d_S_offerPairs_30 : decode b_S_offerPairs 30 = .ok (.if_icmp .ge 33, 3) := by decide +kernel
theorem d_S_offerPairs_33 : decode b_S_offerPairs 33 = .ok (.aload_n 0, 1) := by decide +kernel
theorem d_S_offerPairs_34 : decode b_S_offerPairs 34 = .ok (.iload_n 1, 1) := by decide +kernel
theorem d_S_offerPairs_35 : decode b_S_offerPairs 35 = .ok (.iload_n 2, 1) := by decide +kernel
theorem d_S_offerPairs_36 : decode b_S_offerPairs 36 = .ok (.invokevirtual 261, 3) := by decide +kernel
theorem d_S_offerPairs_39 : decode b_S_offerPairs 39 = .ok (.ifCond .eq 18, 3) := by decide +kernel
theorem d_S_offerPairs_42 : decode b_S_offerPairs 42 = .ok (.aload_n 0, 1) := by decide +kernel
theorem d_S_offerPairs_43 : decode b_S_offerPairs 43 = .ok (.getfield 43, 3) := by decide +kernel
theorem d_S_offerPairs_46 : decode b_S_offerPairs 46 = .ok (.iload_n 1, 1) := by decide +kernel
theorem d_S_offerPairs_47 : decode b_S_offerPairs 47 = .ok (.iload_n 2, 1) := by decide +kernel
theorem d_S_offerPairs_48 : decode b_S_offerPairs 48 = .ok (.aload_n 0, 1) := by decide +kernel
theorem d_S_offerPairs_49 : decode b_S_offerPairs 49 = .ok (.iload_n 1, 1) := by decide +kernel
theorem d_S_offerPairs_50 : decode b_S_offerPairs 50 = .ok (.iload_n 2, 1) := by decide +kernel
theorem d_S_offerPairs_51 : decode b_S_offerPairs 51 = .ok (.invokevirtual 104, 3) := by decide +kernel
theorem d_S_offerPairs_54 : decode b_S_offerPairs 54 = .ok (.invokevirtual 264, 3) := by decide +kernel
theorem d_S_offerPairs_57 : decode b_S_offerPairs 57 = .ok (.iinc 2 1, 3) := by decide +kernel
theorem d_S_offerPairs_60 : decode b_S_offerPairs 60 = .ok (.goto (-38), 3) := by decide +kernel
theorem d_S_offerPairs_63 : decode b_S_offerPairs 63 = .ok (.iinc 1 1, 3) := by decide +kernel
theorem d_S_offerPairs_66 : decode b_S_offerPairs 66 = .ok (.goto (-57), 3) := by decide +kernel
theorem d_S_offerPairs_69 : decode b_S_offerPairs 69 = .ok (.return_, 1) := by decide +kernel
theorem d_S_openOrders_0 : decode b_S_openOrders 0 = .ok (.iconst 0, 1) := by decide +kernel
theorem d_S_openOrders_1 : decode b_S_openOrders 1 = .ok (.istore_n 2, 1) := by decide +kernel
theorem d_S_openOrders_2 : decode b_S_openOrders 2 = .ok (.iconst 0, 1) := by decide +kernel
theorem d_S_openOrders_3 : decode b_S_openOrders 3 = .ok (.istore_n 3, 1) := by decide +kernel
theorem d_S_openOrders_4 : decode b_S_openOrders 4 = .ok (.iload_n 3, 1) := by decide +kernel
theorem d_S_openOrders_5 : decode b_S_openOrders 5 = .ok (.aload_n 0, 1) := by decide +kernel
theorem d_S_openOrders_6 : decode b_S_openOrders 6 = .ok (.getfield 16, 3) := by decide +kernel
theorem d_S_openOrders_9 : decode b_S_openOrders 9 = .ok (.invokevirtual 110, 3) := by decide +kernel
theorem d_S_openOrders_12 : decode b_S_openOrders 12 = .ok (.if_icmp .ge 24, 3) := by decide +kernel
theorem d_S_openOrders_15 : decode b_S_openOrders 15 = .ok (.aload_n 0, 1) := by decide +kernel
theorem d_S_openOrders_16 : decode b_S_openOrders 16 = .ok (.iload_n 1, 1) := by decide +kernel
theorem d_S_openOrders_17 : decode b_S_openOrders 17 = .ok (.iload_n 3, 1) := by decide +kernel
theorem d_S_openOrders_18 : decode b_S_openOrders 18 = .ok (.invokevirtual 261, 3) := by decide +kernel
theorem d_S_openOrders_21 : decode b_S_openOrders 21 = .ok (.ifCond .eq 9, 3) := by decide +kernel
theorem d_S_openOrders_24 : decode b_S_openOrders 24 = .ok (.iload_n 2, 1) := by decide +kernel
theorem d_S_openOrders_25 : decode b_S_openOrders 25 = .ok (.iconst 1, 1) := by decide +kernel
theorem d_S_openOrders_26 : decode b_S_openOrders 26 = .ok (.iload_n 3, 1) := by decide +kernel
theorem d_S_openOrders_27 : decode b_S_openOrders 27 = .ok (.ishl, 1) := by decide +kernel
theorem d_S_openOrders_28 : decode b_S_openOrders 28 = .ok (.ior, 1) := by decide +kernel
theorem d_S_openOrders_29 : decode b_S_openOrders 29 = .ok (.istore_n 2, 1) := by decide +kernel
theorem d_S_openOrders_30 : decode b_S_openOrders 30 = .ok (.iinc 3 1, 3) := by decide +kernel
theorem d_S_openOrders_33 : decode b_S_openOrders 33 = .ok (.goto (-29), 3) := by decide +kernel
theorem d_S_openOrders_36 : decode b_S_openOrders 36 = .ok (.iload_n 2, 1) := by decide +kernel
theorem d_S_openOrders_37 : decode b_S_openOrders 37 = .ok (.ireturn, 1) := by decide +kernel
theorem d_S_totalWorth_0 : decode b_S_totalWorth 0 = .ok (.iconst 0, 1) := by decide +kernel
theorem d_S_totalWorth_1 : decode b_S_totalWorth 1 = .ok (.istore_n 3, 1) := by decide +kernel
theorem d_S_totalWorth_2 : decode b_S_totalWorth 2 = .ok (.iconst 0, 1) := by decide +kernel
theorem d_S_totalWorth_3 : decode b_S_totalWorth 3 = .ok (.istore 4, 2) := by decide +kernel
theorem d_S_totalWorth_5 : decode b_S_totalWorth 5 = .ok (.iload 4, 2) := by decide +kernel
theorem d_S_totalWorth_7 : decode b_S_totalWorth 7 = .ok (.aload_n 0, 1) := by decide +kernel
theorem d_S_totalWorth_8 : decode b_S_totalWorth 8 = .ok (.getfield 16, 3) := by decide +kernel
theorem d_S_totalWorth_11 : decode b_S_totalWorth 11 = .ok (.invokevirtual 110, 3) := by decide +kernel
theorem d_S_totalWorth_14 : decode b_S_totalWorth 14 = .ok (.if_icmp .ge 29, 3) := by decide +kernel
theorem d_S_totalWorth_17 : decode b_S_totalWorth 17 = .ok (.iload_n 2, 1) := by decide +kernel
theorem d_S_totalWorth_18 : decode b_S_totalWorth 18 = .ok (.iload 4, 2) := by decide +kernel
theorem d_S_totalWorth_20 : decode b_S_totalWorth 20 = .ok (.ishr, 1) := by decide +kernel
theorem d_S_totalWorth_21 : decode b_S_totalWorth 21 = .ok (.iconst 1, 1) := by decide +kernel
theorem d_S_totalWorth_22 : decode b_S_totalWorth 22 = .ok (.iand, 1) := by decide +kernel
theorem d_S_totalWorth_23 : decode b_S_totalWorth 23 = .ok (.iconst 1, 1) := by decide +kernel
theorem d_S_totalWorth_24 : decode b_S_totalWorth 24 = .ok (.if_icmp .ne 13, 3) := by decide +kernel
theorem d_S_totalWorth_27 : decode b_S_totalWorth 27 = .ok (.iload_n 3, 1) := by decide +kernel
theorem d_S_totalWorth_28 : decode b_S_totalWorth 28 = .ok (.aload_n 0, 1) := by decide +kernel
theorem d_S_totalWorth_29 : decode b_S_totalWorth 29 = .ok (.iload_n 1, 1) := by decide +kernel
theorem d_S_totalWorth_30 : decode b_S_totalWorth 30 = .ok (.iload 4, 2) := by decide +kernel
theorem d_S_totalWorth_32 : decode b_S_totalWorth 32 = .ok (.invokevirtual 104, 3) := by decide +kernel
theorem d_S_totalWorth_35 : decode b_S_totalWorth 35 = .ok (.iadd, 1) := by decide +kernel
theorem d_S_totalWorth_36 : decode b_S_totalWorth 36 = .ok (.istore_n 3, 1) := by decide +kernel
theorem d_S_totalWorth_37 : decode b_S_totalWorth 37 = .ok (.iinc 4 1, 3) := by decide +kernel
theorem d_S_totalWorth_40 : decode b_S_totalWorth 40 = .ok (.goto (-35), 3) := by decide +kernel
theorem d_S_totalWorth_43 : decode b_S_totalWorth 43 = .ok (.iload_n 3, 1) := by decide +kernel
theorem d_S_totalWorth_44 : decode b_S_totalWorth 44 = .ok (.ireturn, 1) := by decide +kernel
def w_S_ageOf : List Cond := .code y_S_ageOf b_S_ageOf 2 (some .int) :: W0
theorem q_S_ageOf : y_S_ageOf.cls = R_S ∧ y_S_ageOf.cls ≠ "java/lang/invoke/MethodHandle" ∧ y_S_ageOf.cls ≠ "java/lang/invoke/VarHandle" ∧ (parseMethodDescriptor y_S_ageOf.desc).map (fun d => d.parameters.length) = some 1 := by decide +kernel
def m_S_ageOf (s_cameOn : Nat → Int32) (s_today : Int32) (x1 : Int32) : Option Int32 :=
  (if x1 < 0 ∨ 10 ≤ x1.toNatClampNeg then none else
some (s_today - (s_cameOn x1.toNatClampNeg)))
set_option maxHeartbeats 4000000 in
set_option maxRecDepth 100000 in
theorem c_S_ageOf (l : Launch) (dC : Nat → ClassId) (dI : Nat → Nat → Nat) (cI : ClassId) (sq pq pq1 pq2 pq3 pq4 oq oq1 oq2 oq3 oq4 sq3 sq4 uq uq1 hq hq1 hq2 mq mq1 mq2 mq3 mq4 mq5 : Nat) (p_thicks : Nat → Int32) (p_wides : Nat → Int32) (p_lengths : Nat → Int32) (p_grades : Nat → Int32) (p_count : Int32) (o_thicks : Nat → Int32) (o_wides : Nat → Int32) (o_lengths : Nat → Int32) (o_grades : Nat → Int32) (o_count : Int32) (s_cameOn : Nat → Int32) (s_told : Nat → Int32) (u_ordersOfPiece : Nat → Int32) (u_usedOrders : Int32) (h_orderOfPiece : Nat → Int32) (h_lastDay : Nat → Int32) (h_heldOrders : Int32) (m_gains : Nat → Int32) (m_best : Nat → Int32) (m_chosen : Nat → Int32) (m_pieceDuals : Nat → Int32) (m_orderDuals : Nat → Int32) (m_pieceCount : Int32) (m_orderCount : Int32) (m_pairs : Int32) (m_worthSum : Int32) (m_upToDate : Int32) (s_today : Int32) (s_cutOff : Int32) (s_agingOff : Int32) (s_saleAge : Int32) (x1 : Int32) (N : Nat) (res : Int32) (hm : m_S_ageOf s_cameOn s_today x1 = some res) : Met l y_S_ageOf w_S_ageOf ({ frames := 0, cells := 0, slots := 0, locals := 0 } : Room) (va_Pc [.ref sq, .int x1] (fun U => va_P (dC, dI) classes [(sq, .inr (4, [.ref pq, .ref oq, .ref sq3, .ref sq4, .ref uq, .ref hq, .ref mq, .int s_today, .int s_cutOff, .int s_agingOff, .int s_saleAge])), (pq, .inr (0, [.ref pq1, .ref pq2, .ref pq3, .ref pq4, .int p_count])), (pq1, .inl (cI, 10, .inl p_thicks)), (pq2, .inl (cI, 10, .inl p_wides)), (pq3, .inl (cI, 10, .inl p_lengths)), (pq4, .inl (cI, 10, .inl p_grades)), (oq, .inr (0, [.ref oq1, .ref oq2, .ref oq3, .ref oq4, .int o_count])), (oq1, .inl (cI, 10, .inl o_thicks)), (oq2, .inl (cI, 10, .inl o_wides)), (oq3, .inl (cI, 10, .inl o_lengths)), (oq4, .inl (cI, 10, .inl o_grades)), (sq3, .inl (cI, 10, .inl s_cameOn)), (sq4, .inl (cI, 100, .inl s_told)), (uq, .inr (1, [.ref uq1, .int u_usedOrders])), (uq1, .inl (cI, 10, .inl u_ordersOfPiece)), (hq, .inr (2, [.ref hq1, .ref hq2, .int h_heldOrders])), (hq1, .inl (cI, 10, .inl h_orderOfPiece)), (hq2, .inl (cI, 10, .inl h_lastDay)), (mq, .inr (3, [.ref mq1, .ref mq2, .ref mq3, .ref mq4, .ref mq5, .int m_pieceCount, .int m_orderCount, .int m_pairs, .int m_worthSum, .int m_upToDate])), (mq1, .inl (cI, 100, .inl m_gains)), (mq2, .inl (cI, 11264, .inl m_best)), (mq3, .inl (cI, 10, .inl m_chosen)), (mq4, .inl (cI, 10, .inl m_pieceDuals)), (mq5, .inl (cI, 10, .inl m_orderDuals))] U.heap ∧ va_K (dC, dI) classes [(cI, .int)] U ∧ nw U)) (vp_Si (fun x => res = x)) 0 0 (fun _ => False) := by
  unfold m_S_ageOf at hm
  refine Met.ofW (cc := b_S_ageOf) (maxL := 2) (ret := (some .int)) (by decide) rfl ?_
  intro p e s m args below meth c s₁ B hml hv
  obtain ⟨rfl, hP, hK, hN⟩ := hv
  have hx := B.exec
  have hb := B.bytes
  have hr := B.returns
  have hts := atoms_spec (ws := w_S_ageOf) B.pre
  have hown : s.vm.findClass R_S = some m.cls := findClass_of_methodNamed B.named
  have hlocks := B.notSynchronized
  have hk0 := hts (.fieldLink R_S 62 "SurplusMatch" "today" "I") (List.mem_cons_of_mem _ (w0 148 rfl))
  have hk1 : ∀ w ∈ w_S, w ∈ w_S_ageOf := fun w h => List.mem_cons_of_mem _ (i_S w h)
  have hk2 := hts (.fieldLink R_S 19 "SurplusMatch" "cameOn" "[I") (List.mem_cons_of_mem _ (w0 143 rfl))
  have hl := lv_entry ([.ref sq, .int x1]) (n := 2) (Nat.le_of_ble_eq_true rfl)
  rw [lg_entry_eq]
  generalize (lg_sl ([.ref sq, .int x1]) ++ List.replicate (2 - (lg_sl ([.ref sq, .int x1])).length) Slot.unset).toArray = ls at hl ⊢
  have hl : lv_has ls 2 [(0, .ref sq), (1, .int x1)] := hl
  refine lv_aload_n hx hb d_S_ageOf_0 rfl (lv_at hl 0 rfl) ?_
  refine va_get (D := (dC, dI)) (ci := 4) (v := .int s_today) (C := R_S) (T := F_S) (N := 11) hx hb hts hk1 hown hK hP 0 rfl rfl 7 (by decide) hk0 (fun _ h9 => h9) rfl d_S_ageOf_1 ?_
  refine lv_aload_n hx hb d_S_ageOf_4 rfl (lv_at hl 0 rfl) ?_
  refine va_get (D := (dC, dI)) (ci := 4) (v := .ref sq3) (C := R_S) (T := F_S) (N := 11) hx hb hts hk1 hown hK hP 0 rfl rfl 2 (by decide) hk2 (fun _ h9 => h9) rfl d_S_ageOf_5 ?_
  refine lv_iload_n hx hb d_S_ageOf_8 rfl (lv_at hl 1 rfl) ?_
  obtain ⟨h9, hm⟩ := gd hm
  refine va_iald hx hb hK hP 11 0 rfl rfl h9 d_S_ageOf_9 ?_
  refine lv_isub hx hb d_S_ageOf_10 ?_
  cases hm
  exact W.iret hx hb hr (fun t ht hW => ⟨_, rfl, rfl, ht⟩) (fun _ h => nomatch h) d_S_ageOf_11

def w_S_worthToday : List Cond := .code y_S_worthToday b_S_worthToday 4 (some .int) :: W0
theorem q_S_worthToday : y_S_worthToday.cls = R_S ∧ y_S_worthToday.cls ≠ "java/lang/invoke/MethodHandle" ∧ y_S_worthToday.cls ≠ "java/lang/invoke/VarHandle" ∧ (parseMethodDescriptor y_S_worthToday.desc).map (fun d => d.parameters.length) = some 2 := by decide +kernel
def m_S_worthToday (p_wides : Nat → Int32) (p_lengths : Nat → Int32) (o_wides : Nat → Int32) (o_lengths : Nat → Int32) (s_cameOn : Nat → Int32) (s_told : Nat → Int32) (s_today : Int32) (s_cutOff : Int32) (s_agingOff : Int32) (x1 : Int32) (x2 : Int32) : Option Int32 :=
  ((m_B_sidesToCut p_wides p_lengths o_wides o_lengths x1 x2).bind fun r1 =>
  ((m_S_ageOf s_cameOn s_today x1).bind fun r2 =>
    ((m_S_pairIndex x1 x2).bind fun r3 =>
      (if r3 < 0 ∨ 100 ≤ r3.toNatClampNeg then none else
      some (if 0 < ((s_told r3.toNatClampNeg) - ((s_cutOff * r1) + (s_agingOff * r2))) then ((s_told r3.toNatClampNeg) - ((s_cutOff * r1) + (s_agingOff * r2))) else 0)))))
set_option maxHeartbeats 4000000 in
set_option maxRecDepth 100000 in
theorem c_S_worthToday (l : Launch) (dC : Nat → ClassId) (dI : Nat → Nat → Nat) (cI : ClassId) (sq pq pq1 pq2 pq3 pq4 oq oq1 oq2 oq3 oq4 sq3 sq4 uq uq1 hq hq1 hq2 mq mq1 mq2 mq3 mq4 mq5 : Nat) (p_thicks : Nat → Int32) (p_wides : Nat → Int32) (p_lengths : Nat → Int32) (p_grades : Nat → Int32) (p_count : Int32) (o_thicks : Nat → Int32) (o_wides : Nat → Int32) (o_lengths : Nat → Int32) (o_grades : Nat → Int32) (o_count : Int32) (s_cameOn : Nat → Int32) (s_told : Nat → Int32) (u_ordersOfPiece : Nat → Int32) (u_usedOrders : Int32) (h_orderOfPiece : Nat → Int32) (h_lastDay : Nat → Int32) (h_heldOrders : Int32) (m_gains : Nat → Int32) (m_best : Nat → Int32) (m_chosen : Nat → Int32) (m_pieceDuals : Nat → Int32) (m_orderDuals : Nat → Int32) (m_pieceCount : Int32) (m_orderCount : Int32) (m_pairs : Int32) (m_worthSum : Int32) (m_upToDate : Int32) (s_today : Int32) (s_cutOff : Int32) (s_agingOff : Int32) (s_saleAge : Int32) (x1 : Int32) (x2 : Int32) (N : Nat) (res : Int32) (hm : m_S_worthToday p_wides p_lengths o_wides o_lengths s_cameOn s_told s_today s_cutOff s_agingOff x1 x2 = some res) : Met l y_S_worthToday w_S_worthToday ({ frames := 1, cells := 0, slots := 0, locals := 25 } : Room) (va_Pc [.ref sq, .int x1, .int x2] (fun U => va_P (dC, dI) classes [(sq, .inr (4, [.ref pq, .ref oq, .ref sq3, .ref sq4, .ref uq, .ref hq, .ref mq, .int s_today, .int s_cutOff, .int s_agingOff, .int s_saleAge])), (pq, .inr (0, [.ref pq1, .ref pq2, .ref pq3, .ref pq4, .int p_count])), (pq1, .inl (cI, 10, .inl p_thicks)), (pq2, .inl (cI, 10, .inl p_wides)), (pq3, .inl (cI, 10, .inl p_lengths)), (pq4, .inl (cI, 10, .inl p_grades)), (oq, .inr (0, [.ref oq1, .ref oq2, .ref oq3, .ref oq4, .int o_count])), (oq1, .inl (cI, 10, .inl o_thicks)), (oq2, .inl (cI, 10, .inl o_wides)), (oq3, .inl (cI, 10, .inl o_lengths)), (oq4, .inl (cI, 10, .inl o_grades)), (sq3, .inl (cI, 10, .inl s_cameOn)), (sq4, .inl (cI, 100, .inl s_told)), (uq, .inr (1, [.ref uq1, .int u_usedOrders])), (uq1, .inl (cI, 10, .inl u_ordersOfPiece)), (hq, .inr (2, [.ref hq1, .ref hq2, .int h_heldOrders])), (hq1, .inl (cI, 10, .inl h_orderOfPiece)), (hq2, .inl (cI, 10, .inl h_lastDay)), (mq, .inr (3, [.ref mq1, .ref mq2, .ref mq3, .ref mq4, .ref mq5, .int m_pieceCount, .int m_orderCount, .int m_pairs, .int m_worthSum, .int m_upToDate])), (mq1, .inl (cI, 100, .inl m_gains)), (mq2, .inl (cI, 11264, .inl m_best)), (mq3, .inl (cI, 10, .inl m_chosen)), (mq4, .inl (cI, 10, .inl m_pieceDuals)), (mq5, .inl (cI, 10, .inl m_orderDuals))] U.heap ∧ va_K (dC, dI) classes [(cI, .int)] U ∧ nw U)) (vp_Si (fun x => res = x)) 0 0 (fun _ => False) := by
  unfold m_S_worthToday at hm
  refine Met.ofW (cc := b_S_worthToday) (maxL := 4) (ret := (some .int)) (by decide) rfl ?_
  intro p e s m args below meth c s₁ B hml hv
  obtain ⟨rfl, hP, hK, hN⟩ := hv
  have hx := B.exec
  have hb := B.bytes
  have hr := B.returns
  have hts := atoms_spec (ws := w_S_worthToday) B.pre
  have hown : s.vm.findClass R_S = some m.cls := findClass_of_methodNamed B.named
  have hlocks := B.notSynchronized
  have hk0 := hts (.fieldLink R_S 94 "SurplusMatch" "cutOff" "I") (List.mem_cons_of_mem _ (w0 149 rfl))
  have hk1 : ∀ w ∈ w_S, w ∈ w_S_worthToday := fun w h => List.mem_cons_of_mem _ (i_S w h)
  have hk2 := hts (.fieldLink R_S 10 "SurplusMatch" "pieces" "LSurplusMatch$Boards;") (List.mem_cons_of_mem _ (w0 141 rfl))
  have hk3 := hts (.fieldLink R_S 16 "SurplusMatch" "orders" "LSurplusMatch$Boards;") (List.mem_cons_of_mem _ (w0 142 rfl))
  have hk4 := hts (.fieldLink R_S 97 "SurplusMatch" "agingOff" "I") (List.mem_cons_of_mem _ (w0 150 rfl))
  have hk5 := hts (.fieldLink R_S 23 "SurplusMatch" "told" "[I") (List.mem_cons_of_mem _ (w0 144 rfl))
  have hk6 := hts (.methodLink R_S 243 Lib.Math.max.name) (List.mem_cons_of_mem _ (w0 230 rfl))
  have hk7 := hts (.static Lib.Math.max.name) (List.mem_cons_of_mem _ (w0 231 rfl))
  have hk8 := hts (.initialized "java/lang/Math") (List.mem_cons_of_mem _ (w0 40 rfl))
  have hk9 := hts (.code Lib.Math.max.name Lib.Math.max.code 2 (some .int)) (List.mem_cons_of_mem _ (w0 232 rfl))
  have hl := lv_entry ([.ref sq, .int x1, .int x2]) (n := 4) (Nat.le_of_ble_eq_true rfl)
  rw [lg_entry_eq]
  generalize (lg_sl ([.ref sq, .int x1, .int x2]) ++ List.replicate (4 - (lg_sl ([.ref sq, .int x1, .int x2])).length) Slot.unset).toArray = ls at hl ⊢
  have hl : lv_has ls 4 [(0, .ref sq), (1, .int x1), (2, .int x2)] := hl
  refine lv_aload_n hx hb d_S_worthToday_0 rfl (lv_at hl 0 rfl) ?_
  refine va_get (D := (dC, dI)) (ci := 4) (v := .int s_cutOff) (C := R_S) (T := F_S) (N := 11) hx hb hts hk1 hown hK hP 0 rfl rfl 8 (by decide) hk0 (fun _ h9 => h9) rfl d_S_worthToday_1 ?_
  refine lv_aload_n hx hb d_S_worthToday_4 rfl (lv_at hl 0 rfl) ?_
  refine va_get (D := (dC, dI)) (ci := 4) (v := .ref pq) (C := R_S) (T := F_S) (N := 11) hx hb hts hk1 hown hK hP 0 rfl rfl 0 (by decide) hk2 (fun _ h9 => h9) rfl d_S_worthToday_5 ?_
  refine lv_iload_n hx hb d_S_worthToday_8 rfl (lv_at hl 1 rfl) ?_
  refine lv_aload_n hx hb d_S_worthToday_9 rfl (lv_at hl 0 rfl) ?_
  refine va_get (D := (dC, dI)) (ci := 4) (v := .ref oq) (C := R_S) (T := F_S) (N := 11) hx hb hts hk1 hown hK hP 0 rfl rfl 1 (by decide) hk3 (fun _ h9 => h9) rfl d_S_worthToday_10 ?_
  refine lv_iload_n hx hb d_S_worthToday_13 rfl (lv_at hl 2 rfl) ?_
  obtain ⟨r1, hc, hm⟩ := bd hm
  try dsimp only at hm
  refine vp_callSi (W.runV (As := [.int x1, .ref oq, .int x2]) (rest := [.int s_cutOff]) ⟨hx, hb, hml, hown, hts⟩ (c_B_sidesToCut l dC dI cI pq pq1 pq2 pq3 pq4 oq oq1 oq2 oq3 oq4 p_thicks p_wides p_lengths p_grades p_count o_thicks o_wides o_lengths o_grades o_count x1 x2 N r1 hc) (cwV 3 hts (gV (w0 220 rfl) (w0 221 rfl) (w0 222 rfl) (w0 29 rfl) (w0 223 rfl)) rfl rfl rfl q_B_sidesToCut ⟨Nat.le_of_ble_eq_true rfl, Nat.le_of_ble_eq_true rfl⟩) (ro_preV [1, 2, 3, 4, 5, 6, 7, 8, 9, 10] rfl hK hP hN 0 0 (R_B, F_B, 5) rfl rfl) rfl rfl hl.1 rfl (lv_room (Nat.le_of_ble_eq_true rfl)) d_S_worthToday_14 ⟨Nat.le_of_ble_eq_true rfl, Nat.le_of_ble_eq_true rfl⟩) (fun r9 hr9 => ?_)
  subst hr9
  refine lv_imul hx hb d_S_worthToday_17 ?_
  refine lv_aload_n hx hb d_S_worthToday_18 rfl (lv_at hl 0 rfl) ?_
  refine va_get (D := (dC, dI)) (ci := 4) (v := .int s_agingOff) (C := R_S) (T := F_S) (N := 11) hx hb hts hk1 hown hK hP 0 rfl rfl 9 (by decide) hk4 (fun _ h9 => h9) rfl d_S_worthToday_19 ?_
  refine lv_aload_n hx hb d_S_worthToday_22 rfl (lv_at hl 0 rfl) ?_
  refine lv_iload_n hx hb d_S_worthToday_23 rfl (lv_at hl 1 rfl) ?_
  obtain ⟨r2, hc, hm⟩ := bd hm
  try dsimp only at hm
  refine vp_callSi (W.runV (As := [.int x1]) (rest := [.int s_agingOff, .int (s_cutOff * r1)]) ⟨hx, hb, hml, hown, hts⟩ (c_S_ageOf l dC dI cI sq pq pq1 pq2 pq3 pq4 oq oq1 oq2 oq3 oq4 sq3 sq4 uq uq1 hq hq1 hq2 mq mq1 mq2 mq3 mq4 mq5 p_thicks p_wides p_lengths p_grades p_count o_thicks o_wides o_lengths o_grades o_count s_cameOn s_told u_ordersOfPiece u_usedOrders h_orderOfPiece h_lastDay h_heldOrders m_gains m_best m_chosen m_pieceDuals m_orderDuals m_pieceCount m_orderCount m_pairs m_worthSum m_upToDate s_today s_cutOff s_agingOff s_saleAge x1 N r2 hc) (cwV 1 hts (gV (w0 224 rfl) (w0 225 rfl) (w0 3 rfl) (w0 28 rfl) (w0 226 rfl)) rfl rfl rfl q_S_ageOf ⟨Nat.le_of_ble_eq_true rfl, Nat.le_of_ble_eq_true rfl⟩) (ro_preV [0, 1, 2, 3, 4, 5, 6, 7, 8, 9, 10, 11, 12, 13, 14, 15, 16, 17, 18, 19, 20, 21, 22, 23] rfl hK hP hN 4 0 (R_S, F_S, 11) rfl rfl) rfl rfl hl.1 rfl (lv_room (Nat.le_of_ble_eq_true rfl)) d_S_worthToday_24 ⟨Nat.le_of_ble_eq_true rfl, Nat.le_of_ble_eq_true rfl⟩) (fun r9 hr9 => ?_)
  subst hr9
  refine lv_imul hx hb d_S_worthToday_27 ?_
  refine lv_iadd hx hb d_S_worthToday_28 ?_
  refine lv_istore_n (lv' := [(3, .int ((s_cutOff * r1) + (s_agingOff * r2))), (0, .ref sq), (1, .int x1), (2, .int x2)]) hx hb d_S_worthToday_29 rfl hl (by decide) rfl (fun ls hl => ?_)
  refine lv_iconst (v := 0) hx hb d_S_worthToday_30 (by decide) ?_
  refine lv_aload_n hx hb d_S_worthToday_31 rfl (lv_at hl 1 rfl) ?_
  refine va_get (D := (dC, dI)) (ci := 4) (v := .ref sq4) (C := R_S) (T := F_S) (N := 11) hx hb hts hk1 hown hK hP 0 rfl rfl 3 (by decide) hk5 (fun _ h9 => h9) rfl d_S_worthToday_32 ?_
  refine lv_iload_n hx hb d_S_worthToday_35 rfl (lv_at hl 2 rfl) ?_
  refine lv_iload_n hx hb d_S_worthToday_36 rfl (lv_at hl 3 rfl) ?_
  obtain ⟨r3, hc, hm⟩ := bd hm
  try dsimp only at hm
  refine vp_callSi (W.runS (As := [.int x1, .int x2]) (rest := [.ref sq4, .int 0]) ⟨hx, hb, hml, hown, hts⟩ (c_S_pairIndex l dC dI cI x1 x2 N r3 hc) (cwS 2 hts (gS (w0 227 rfl) (w0 228 rfl) (w0 28 rfl) (w0 229 rfl)) rfl rfl rfl q_S_pairIndex ⟨Nat.le_of_ble_eq_true rfl, Nat.le_of_ble_eq_true rfl⟩) ro_pre0 rfl rfl hl.1 rfl (lv_room (Nat.le_of_ble_eq_true rfl)) d_S_worthToday_37 ⟨Nat.le_of_ble_eq_true rfl, Nat.le_of_ble_eq_true rfl⟩) (fun r9 hr9 => ?_)
  subst hr9
  obtain ⟨h9, hm⟩ := gd hm
  refine va_iald hx hb hK hP 12 0 rfl rfl h9 d_S_worthToday_40 ?_
  refine lv_iload_n hx hb d_S_worthToday_41 rfl (lv_at hl 0 rfl) ?_
  refine lv_isub hx hb d_S_worthToday_42 ?_
  refine va_mmax hx hb (by rw [hml]; exact hl.1.symm) hown hk6 hk7 hk8 hk9 (Nat.le_of_ble_eq_true rfl) (Nat.le_of_ble_eq_true rfl) (Nat.le_of_ble_eq_true rfl) (Nat.le_of_ble_eq_true rfl) d_S_worthToday_43 ?_
  cases hm
  exact W.iret hx hb hr (fun t ht hW => ⟨_, rfl, rfl, ht⟩) (fun _ h => nomatch h) d_S_worthToday_46

def w_S_isForSale : List Cond := .code y_S_isForSale b_S_isForSale 2 (some .boolean) :: W0
theorem q_S_isForSale : y_S_isForSale.cls = R_S ∧ y_S_isForSale.cls ≠ "java/lang/invoke/MethodHandle" ∧ y_S_isForSale.cls ≠ "java/lang/invoke/VarHandle" ∧ (parseMethodDescriptor y_S_isForSale.desc).map (fun d => d.parameters.length) = some 1 := by decide +kernel
def m_S_isForSale (s_cameOn : Nat → Int32) (u_ordersOfPiece : Nat → Int32) (h_orderOfPiece : Nat → Int32) (s_today : Int32) (s_saleAge : Int32) (x1 : Int32) : Option Int32 :=
  ((m_U_isPieceUsed u_ordersOfPiece x1).bind fun r1 =>
  (if r1 = 0 then
    ((m_H_isPieceHeld h_orderOfPiece x1).bind fun r2 =>
      (if r2 = 0 then
        ((m_S_ageOf s_cameOn s_today x1).bind fun r3 =>
          (if r3 < s_saleAge then
            some 0
           else
            some 1))
       else
        some 0))
   else
    some 0))
set_option maxHeartbeats 4000000 in
set_option maxRecDepth 100000 in
theorem c_S_isForSale (l : Launch) (dC : Nat → ClassId) (dI : Nat → Nat → Nat) (cI : ClassId) (sq pq pq1 pq2 pq3 pq4 oq oq1 oq2 oq3 oq4 sq3 sq4 uq uq1 hq hq1 hq2 mq mq1 mq2 mq3 mq4 mq5 : Nat) (p_thicks : Nat → Int32) (p_wides : Nat → Int32) (p_lengths : Nat → Int32) (p_grades : Nat → Int32) (p_count : Int32) (o_thicks : Nat → Int32) (o_wides : Nat → Int32) (o_lengths : Nat → Int32) (o_grades : Nat → Int32) (o_count : Int32) (s_cameOn : Nat → Int32) (s_told : Nat → Int32) (u_ordersOfPiece : Nat → Int32) (u_usedOrders : Int32) (h_orderOfPiece : Nat → Int32) (h_lastDay : Nat → Int32) (h_heldOrders : Int32) (m_gains : Nat → Int32) (m_best : Nat → Int32) (m_chosen : Nat → Int32) (m_pieceDuals : Nat → Int32) (m_orderDuals : Nat → Int32) (m_pieceCount : Int32) (m_orderCount : Int32) (m_pairs : Int32) (m_worthSum : Int32) (m_upToDate : Int32) (s_today : Int32) (s_cutOff : Int32) (s_agingOff : Int32) (s_saleAge : Int32) (x1 : Int32) (N : Nat) (res : Int32) (hm : m_S_isForSale s_cameOn u_ordersOfPiece h_orderOfPiece s_today s_saleAge x1 = some res) : Met l y_S_isForSale w_S_isForSale ({ frames := 1, cells := 0, slots := 0, locals := 21 } : Room) (va_Pc [.ref sq, .int x1] (fun U => va_P (dC, dI) classes [(sq, .inr (4, [.ref pq, .ref oq, .ref sq3, .ref sq4, .ref uq, .ref hq, .ref mq, .int s_today, .int s_cutOff, .int s_agingOff, .int s_saleAge])), (pq, .inr (0, [.ref pq1, .ref pq2, .ref pq3, .ref pq4, .int p_count])), (pq1, .inl (cI, 10, .inl p_thicks)), (pq2, .inl (cI, 10, .inl p_wides)), (pq3, .inl (cI, 10, .inl p_lengths)), (pq4, .inl (cI, 10, .inl p_grades)), (oq, .inr (0, [.ref oq1, .ref oq2, .ref oq3, .ref oq4, .int o_count])), (oq1, .inl (cI, 10, .inl o_thicks)), (oq2, .inl (cI, 10, .inl o_wides)), (oq3, .inl (cI, 10, .inl o_lengths)), (oq4, .inl (cI, 10, .inl o_grades)), (sq3, .inl (cI, 10, .inl s_cameOn)), (sq4, .inl (cI, 100, .inl s_told)), (uq, .inr (1, [.ref uq1, .int u_usedOrders])), (uq1, .inl (cI, 10, .inl u_ordersOfPiece)), (hq, .inr (2, [.ref hq1, .ref hq2, .int h_heldOrders])), (hq1, .inl (cI, 10, .inl h_orderOfPiece)), (hq2, .inl (cI, 10, .inl h_lastDay)), (mq, .inr (3, [.ref mq1, .ref mq2, .ref mq3, .ref mq4, .ref mq5, .int m_pieceCount, .int m_orderCount, .int m_pairs, .int m_worthSum, .int m_upToDate])), (mq1, .inl (cI, 100, .inl m_gains)), (mq2, .inl (cI, 11264, .inl m_best)), (mq3, .inl (cI, 10, .inl m_chosen)), (mq4, .inl (cI, 10, .inl m_pieceDuals)), (mq5, .inl (cI, 10, .inl m_orderDuals))] U.heap ∧ va_K (dC, dI) classes [(cI, .int)] U ∧ nw U)) (vp_Si (fun x => res = x)) 0 0 (fun _ => False) := by
  unfold m_S_isForSale at hm
  refine Met.ofW (cc := b_S_isForSale) (maxL := 2) (ret := (some .boolean)) (by decide) rfl ?_
  intro p e s m args below meth c s₁ B hml hv
  obtain ⟨rfl, hP, hK, hN⟩ := hv
  have hx := B.exec
  have hb := B.bytes
  have hr := B.returns
  have hts := atoms_spec (ws := w_S_isForSale) B.pre
  have hown : s.vm.findClass R_S = some m.cls := findClass_of_methodNamed B.named
  have hlocks := B.notSynchronized
  have hk0 := hts (.fieldLink R_S 29 "SurplusMatch" "uses" "LSurplusMatch$Uses;") (List.mem_cons_of_mem _ (w0 145 rfl))
  have hk1 : ∀ w ∈ w_S, w ∈ w_S_isForSale := fun w h => List.mem_cons_of_mem _ (i_S w h)
  have hk2 := hts (.fieldLink R_S 36 "SurplusMatch" "holds" "LSurplusMatch$Holds;") (List.mem_cons_of_mem _ (w0 146 rfl))
  have hk3 := hts (.fieldLink R_S 47 "SurplusMatch" "saleAge" "I") (List.mem_cons_of_mem _ (w0 151 rfl))
  have hl := lv_entry ([.ref sq, .int x1]) (n := 2) (Nat.le_of_ble_eq_true rfl)
  rw [lg_entry_eq]
  generalize (lg_sl ([.ref sq, .int x1]) ++ List.replicate (2 - (lg_sl ([.ref sq, .int x1])).length) Slot.unset).toArray = ls at hl ⊢
  have hl : lv_has ls 2 [(0, .ref sq), (1, .int x1)] := hl
  refine lv_aload_n hx hb d_S_isForSale_0 rfl (lv_at hl 0 rfl) ?_
  refine va_get (D := (dC, dI)) (ci := 4) (v := .ref uq) (C := R_S) (T := F_S) (N := 11) hx hb hts hk1 hown hK hP 0 rfl rfl 4 (by decide) hk0 (fun _ h9 => h9) rfl d_S_isForSale_1 ?_
  refine lv_iload_n hx hb d_S_isForSale_4 rfl (lv_at hl 1 rfl) ?_
  obtain ⟨r1, hc, hm⟩ := bd hm
  try dsimp only at hm
  refine vp_callSi (W.runV (As := [.int x1]) (rest := []) ⟨hx, hb, hml, hown, hts⟩ (c_U_isPieceUsed l dC dI cI uq uq1 u_ordersOfPiece u_usedOrders x1 N r1 hc) (cwV 1 hts (gV (w0 193 rfl) (w0 194 rfl) (w0 195 rfl) (w0 30 rfl) (w0 196 rfl)) rfl rfl rfl q_U_isPieceUsed ⟨Nat.le_of_ble_eq_true rfl, Nat.le_of_ble_eq_true rfl⟩) (ro_preV [13, 14] rfl hK hP hN 1 0 (R_U, F_U, 2) rfl rfl) rfl rfl hl.1 rfl (lv_room (Nat.le_of_ble_eq_true rfl)) d_S_isForSale_5 ⟨Nat.le_of_ble_eq_true rfl, Nat.le_of_ble_eq_true rfl⟩) (fun r9 hr9 => ?_)
  subst hr9
  refine lv_if_ne (tgt := 38) hx hb d_S_isForSale_8 (by decide) (fun c9 => ?_) (fun c9 => ?_)
  · replace hm := if_f c9 hm
    refine lv_iconst (v := 0) hx hb d_S_isForSale_38 (by decide) ?_
    cases hm
    exact W.zret hx hb hr (by decide) (fun t ht hW => ⟨_, rfl, rfl, ht⟩) (fun _ h => nomatch h) d_S_isForSale_39
  · replace hm := if_t c9 hm
    refine lv_aload_n hx hb d_S_isForSale_11 rfl (lv_at hl 0 rfl) ?_
    refine va_get (D := (dC, dI)) (ci := 4) (v := .ref hq) (C := R_S) (T := F_S) (N := 11) hx hb hts hk1 hown hK hP 0 rfl rfl 5 (by decide) hk2 (fun _ h9 => h9) rfl d_S_isForSale_12 ?_
    refine lv_iload_n hx hb d_S_isForSale_15 rfl (lv_at hl 1 rfl) ?_
    obtain ⟨r2, hc, hm⟩ := bd hm
    try dsimp only at hm
    refine vp_callSi (W.runV (As := [.int x1]) (rest := []) ⟨hx, hb, hml, hown, hts⟩ (c_H_isPieceHeld l dC dI cI hq hq1 hq2 h_orderOfPiece h_lastDay h_heldOrders x1 N r2 hc) (cwV 1 hts (gV (w0 493 rfl) (w0 206 rfl) (w0 207 rfl) (w0 31 rfl) (w0 208 rfl)) rfl rfl rfl q_H_isPieceHeld ⟨Nat.le_of_ble_eq_true rfl, Nat.le_of_ble_eq_true rfl⟩) (ro_preV [15, 16, 17] rfl hK hP hN 2 0 (R_H, F_H, 3) rfl rfl) rfl rfl hl.1 rfl (lv_room (Nat.le_of_ble_eq_true rfl)) d_S_isForSale_16 ⟨Nat.le_of_ble_eq_true rfl, Nat.le_of_ble_eq_true rfl⟩) (fun r9 hr9 => ?_)
    subst hr9
    refine lv_if_ne (tgt := 38) hx hb d_S_isForSale_19 (by decide) (fun c9 => ?_) (fun c9 => ?_)
    · replace hm := if_f c9 hm
      refine lv_iconst (v := 0) hx hb d_S_isForSale_38 (by decide) ?_
      cases hm
      exact W.zret hx hb hr (by decide) (fun t ht hW => ⟨_, rfl, rfl, ht⟩) (fun _ h => nomatch h) d_S_isForSale_39
    · replace hm := if_t c9 hm
      refine lv_aload_n hx hb d_S_isForSale_22 rfl (lv_at hl 0 rfl) ?_
      refine lv_iload_n hx hb d_S_isForSale_23 rfl (lv_at hl 1 rfl) ?_
      obtain ⟨r3, hc, hm⟩ := bd hm
      try dsimp only at hm
      refine vp_callSi (W.runV (As := [.int x1]) (rest := []) ⟨hx, hb, hml, hown, hts⟩ (c_S_ageOf l dC dI cI sq pq pq1 pq2 pq3 pq4 oq oq1 oq2 oq3 oq4 sq3 sq4 uq uq1 hq hq1 hq2 mq mq1 mq2 mq3 mq4 mq5 p_thicks p_wides p_lengths p_grades p_count o_thicks o_wides o_lengths o_grades o_count s_cameOn s_told u_ordersOfPiece u_usedOrders h_orderOfPiece h_lastDay h_heldOrders m_gains m_best m_chosen m_pieceDuals m_orderDuals m_pieceCount m_orderCount m_pairs m_worthSum m_upToDate s_today s_cutOff s_agingOff s_saleAge x1 N r3 hc) (cwV 1 hts (gV (w0 224 rfl) (w0 225 rfl) (w0 3 rfl) (w0 28 rfl) (w0 226 rfl)) rfl rfl rfl q_S_ageOf ⟨Nat.le_of_ble_eq_true rfl, Nat.le_of_ble_eq_true rfl⟩) (ro_preV [0, 1, 2, 3, 4, 5, 6, 7, 8, 9, 10, 11, 12, 13, 14, 15, 16, 17, 18, 19, 20, 21, 22, 23] rfl hK hP hN 4 0 (R_S, F_S, 11) rfl rfl) rfl rfl hl.1 rfl (lv_room (Nat.le_of_ble_eq_true rfl)) d_S_isForSale_24 ⟨Nat.le_of_ble_eq_true rfl, Nat.le_of_ble_eq_true rfl⟩) (fun r9 hr9 => ?_)
      subst hr9
      refine lv_aload_n hx hb d_S_isForSale_27 rfl (lv_at hl 0 rfl) ?_
      refine va_get (D := (dC, dI)) (ci := 4) (v := .int s_saleAge) (C := R_S) (T := F_S) (N := 11) hx hb hts hk1 hown hK hP 0 rfl rfl 10 (by decide) hk3 (fun _ h9 => h9) rfl d_S_isForSale_28 ?_
      refine lv_icmp_lt (tgt := 38) hx hb d_S_isForSale_31 (by decide) (fun c9 => ?_) (fun c9 => ?_)
      · replace hm := if_t c9 hm
        refine lv_iconst (v := 0) hx hb d_S_isForSale_38 (by decide) ?_
        cases hm
        exact W.zret hx hb hr (by decide) (fun t ht hW => ⟨_, rfl, rfl, ht⟩) (fun _ h => nomatch h) d_S_isForSale_39
      · replace hm := if_f c9 hm
        refine lv_iconst (v := 1) hx hb d_S_isForSale_34 (by decide) ?_
        refine lv_goto (tgt := 39) hx hb d_S_isForSale_35 (by decide) ?_
        cases hm
        exact W.zret hx hb hr (by decide) (fun t ht hW => ⟨_, rfl, rfl, ht⟩) (fun _ h => nomatch h) d_S_isForSale_39

def w_S_mayPair : List Cond := .code y_S_mayPair b_S_mayPair 3 (some .boolean) :: W0
theorem q_S_mayPair : y_S_mayPair.cls = R_S ∧ y_S_mayPair.cls ≠ "java/lang/invoke/MethodHandle" ∧ y_S_mayPair.cls ≠ "java/lang/invoke/VarHandle" ∧ (parseMethodDescriptor y_S_mayPair.desc).map (fun d => d.parameters.length) = some 2 := by decide +kernel
def m_S_mayPair (p_thicks : Nat → Int32) (p_wides : Nat → Int32) (p_lengths : Nat → Int32) (p_grades : Nat → Int32) (o_thicks : Nat → Int32) (o_wides : Nat → Int32) (o_lengths : Nat → Int32) (o_grades : Nat → Int32) (u_ordersOfPiece : Nat → Int32) (u_usedOrders : Int32) (h_orderOfPiece : Nat → Int32) (h_heldOrders : Int32) (x1 : Int32) (x2 : Int32) : Option Int32 :=
  ((m_U_isPieceUsed u_ordersOfPiece x1).bind fun r1 =>
  (if r1 = 0 then
    ((m_U_isOrderUsed u_usedOrders x2).bind fun r2 =>
      (if r2 = 0 then
        ((m_H_lets h_orderOfPiece h_heldOrders x1 x2).bind fun r3 =>
          (if r3 = 0 then
            some 0
           else
            ((m_B_suits p_thicks p_wides p_lengths p_grades o_thicks o_wides o_lengths o_grades x1 x2).bind fun r4 =>
              (if r4 = 0 then
                some 0
               else
                some 1))))
       else
        some 0))
   else
    some 0))
set_option maxHeartbeats 4000000 in
set_option maxRecDepth 100000 in
theorem c_S_mayPair (l : Launch) (dC : Nat → ClassId) (dI : Nat → Nat → Nat) (cI : ClassId) (sq pq pq1 pq2 pq3 pq4 oq oq1 oq2 oq3 oq4 sq3 sq4 uq uq1 hq hq1 hq2 mq mq1 mq2 mq3 mq4 mq5 : Nat) (p_thicks : Nat → Int32) (p_wides : Nat → Int32) (p_lengths : Nat → Int32) (p_grades : Nat → Int32) (p_count : Int32) (o_thicks : Nat → Int32) (o_wides : Nat → Int32) (o_lengths : Nat → Int32) (o_grades : Nat → Int32) (o_count : Int32) (s_cameOn : Nat → Int32) (s_told : Nat → Int32) (u_ordersOfPiece : Nat → Int32) (u_usedOrders : Int32) (h_orderOfPiece : Nat → Int32) (h_lastDay : Nat → Int32) (h_heldOrders : Int32) (m_gains : Nat → Int32) (m_best : Nat → Int32) (m_chosen : Nat → Int32) (m_pieceDuals : Nat → Int32) (m_orderDuals : Nat → Int32) (m_pieceCount : Int32) (m_orderCount : Int32) (m_pairs : Int32) (m_worthSum : Int32) (m_upToDate : Int32) (s_today : Int32) (s_cutOff : Int32) (s_agingOff : Int32) (s_saleAge : Int32) (x1 : Int32) (x2 : Int32) (N : Nat) (res : Int32) (hm : m_S_mayPair p_thicks p_wides p_lengths p_grades o_thicks o_wides o_lengths o_grades u_ordersOfPiece u_usedOrders h_orderOfPiece h_heldOrders x1 x2 = some res) : Met l y_S_mayPair w_S_mayPair ({ frames := 2, cells := 0, slots := 0, locals := 43 } : Room) (va_Pc [.ref sq, .int x1, .int x2] (fun U => va_P (dC, dI) classes [(sq, .inr (4, [.ref pq, .ref oq, .ref sq3, .ref sq4, .ref uq, .ref hq, .ref mq, .int s_today, .int s_cutOff, .int s_agingOff, .int s_saleAge])), (pq, .inr (0, [.ref pq1, .ref pq2, .ref pq3, .ref pq4, .int p_count])), (pq1, .inl (cI, 10, .inl p_thicks)), (pq2, .inl (cI, 10, .inl p_wides)), (pq3, .inl (cI, 10, .inl p_lengths)), (pq4, .inl (cI, 10, .inl p_grades)), (oq, .inr (0, [.ref oq1, .ref oq2, .ref oq3, .ref oq4, .int o_count])), (oq1, .inl (cI, 10, .inl o_thicks)), (oq2, .inl (cI, 10, .inl o_wides)), (oq3, .inl (cI, 10, .inl o_lengths)), (oq4, .inl (cI, 10, .inl o_grades)), (sq3, .inl (cI, 10, .inl s_cameOn)), (sq4, .inl (cI, 100, .inl s_told)), (uq, .inr (1, [.ref uq1, .int u_usedOrders])), (uq1, .inl (cI, 10, .inl u_ordersOfPiece)), (hq, .inr (2, [.ref hq1, .ref hq2, .int h_heldOrders])), (hq1, .inl (cI, 10, .inl h_orderOfPiece)), (hq2, .inl (cI, 10, .inl h_lastDay)), (mq, .inr (3, [.ref mq1, .ref mq2, .ref mq3, .ref mq4, .ref mq5, .int m_pieceCount, .int m_orderCount, .int m_pairs, .int m_worthSum, .int m_upToDate])), (mq1, .inl (cI, 100, .inl m_gains)), (mq2, .inl (cI, 11264, .inl m_best)), (mq3, .inl (cI, 10, .inl m_chosen)), (mq4, .inl (cI, 10, .inl m_pieceDuals)), (mq5, .inl (cI, 10, .inl m_orderDuals))] U.heap ∧ va_K (dC, dI) classes [(cI, .int)] U ∧ nw U)) (vp_Si (fun x => res = x)) 0 0 (fun _ => False) := by
  unfold m_S_mayPair at hm
  refine Met.ofW (cc := b_S_mayPair) (maxL := 3) (ret := (some .boolean)) (by decide) rfl ?_
  intro p e s m args below meth c s₁ B hml hv
  obtain ⟨rfl, hP, hK, hN⟩ := hv
  have hx := B.exec
  have hb := B.bytes
  have hr := B.returns
  have hts := atoms_spec (ws := w_S_mayPair) B.pre
  have hown : s.vm.findClass R_S = some m.cls := findClass_of_methodNamed B.named
  have hlocks := B.notSynchronized
  have hk0 := hts (.fieldLink R_S 29 "SurplusMatch" "uses" "LSurplusMatch$Uses;") (List.mem_cons_of_mem _ (w0 145 rfl))
  have hk1 : ∀ w ∈ w_S, w ∈ w_S_mayPair := fun w h => List.mem_cons_of_mem _ (i_S w h)
  have hk2 := hts (.fieldLink R_S 36 "SurplusMatch" "holds" "LSurplusMatch$Holds;") (List.mem_cons_of_mem _ (w0 146 rfl))
  have hk3 := hts (.fieldLink R_S 10 "SurplusMatch" "pieces" "LSurplusMatch$Boards;") (List.mem_cons_of_mem _ (w0 141 rfl))
  have hk4 := hts (.fieldLink R_S 16 "SurplusMatch" "orders" "LSurplusMatch$Boards;") (List.mem_cons_of_mem _ (w0 142 rfl))
  have hl := lv_entry ([.ref sq, .int x1, .int x2]) (n := 3) (Nat.le_of_ble_eq_true rfl)
  rw [lg_entry_eq]
  generalize (lg_sl ([.ref sq, .int x1, .int x2]) ++ List.replicate (3 - (lg_sl ([.ref sq, .int x1, .int x2])).length) Slot.unset).toArray = ls at hl ⊢
  have hl : lv_has ls 3 [(0, .ref sq), (1, .int x1), (2, .int x2)] := hl
  refine lv_aload_n hx hb d_S_mayPair_0 rfl (lv_at hl 0 rfl) ?_
  refine va_get (D := (dC, dI)) (ci := 4) (v := .ref uq) (C := R_S) (T := F_S) (N := 11) hx hb hts hk1 hown hK hP 0 rfl rfl 4 (by decide) hk0 (fun _ h9 => h9) rfl d_S_mayPair_1 ?_
  refine lv_iload_n hx hb d_S_mayPair_4 rfl (lv_at hl 1 rfl) ?_
  obtain ⟨r1, hc, hm⟩ := bd hm
  try dsimp only at hm
  refine vp_callSi (W.runV (As := [.int x1]) (rest := []) ⟨hx, hb, hml, hown, hts⟩ (c_U_isPieceUsed l dC dI cI uq uq1 u_ordersOfPiece u_usedOrders x1 N r1 hc) (cwV 1 hts (gV (w0 193 rfl) (w0 194 rfl) (w0 195 rfl) (w0 30 rfl) (w0 196 rfl)) rfl rfl rfl q_U_isPieceUsed ⟨Nat.le_of_ble_eq_true rfl, Nat.le_of_ble_eq_true rfl⟩) (ro_preV [13, 14] rfl hK hP hN 1 0 (R_U, F_U, 2) rfl rfl) rfl rfl hl.1 rfl (lv_room (Nat.le_of_ble_eq_true rfl)) d_S_mayPair_5 ⟨Nat.le_of_ble_eq_true rfl, Nat.le_of_ble_eq_true rfl⟩) (fun r9 hr9 => ?_)
  subst hr9
  refine lv_if_ne (tgt := 54) hx hb d_S_mayPair_8 (by decide) (fun c9 => ?_) (fun c9 => ?_)
  · replace hm := if_f c9 hm
    refine lv_iconst (v := 0) hx hb d_S_mayPair_54 (by decide) ?_
    cases hm
    exact W.zret hx hb hr (by decide) (fun t ht hW => ⟨_, rfl, rfl, ht⟩) (fun _ h => nomatch h) d_S_mayPair_55
  · replace hm := if_t c9 hm
    refine lv_aload_n hx hb d_S_mayPair_11 rfl (lv_at hl 0 rfl) ?_
    refine va_get (D := (dC, dI)) (ci := 4) (v := .ref uq) (C := R_S) (T := F_S) (N := 11) hx hb hts hk1 hown hK hP 0 rfl rfl 4 (by decide) hk0 (fun _ h9 => h9) rfl d_S_mayPair_12 ?_
    refine lv_iload_n hx hb d_S_mayPair_15 rfl (lv_at hl 2 rfl) ?_
    obtain ⟨r2, hc, hm⟩ := bd hm
    try dsimp only at hm
    refine vp_callSi (W.runV (As := [.int x2]) (rest := []) ⟨hx, hb, hml, hown, hts⟩ (c_U_isOrderUsed l dC dI cI uq uq1 u_ordersOfPiece u_usedOrders x2 N r2 hc) (cwV 1 hts (gV (w0 197 rfl) (w0 198 rfl) (w0 199 rfl) (w0 30 rfl) (w0 200 rfl)) rfl rfl rfl q_U_isOrderUsed ⟨Nat.le_of_ble_eq_true rfl, Nat.le_of_ble_eq_true rfl⟩) (ro_preV [13, 14] rfl hK hP hN 1 0 (R_U, F_U, 2) rfl rfl) rfl rfl hl.1 rfl (lv_room (Nat.le_of_ble_eq_true rfl)) d_S_mayPair_16 ⟨Nat.le_of_ble_eq_true rfl, Nat.le_of_ble_eq_true rfl⟩) (fun r9 hr9 => ?_)
    subst hr9
    refine lv_if_ne (tgt := 54) hx hb d_S_mayPair_19 (by decide) (fun c9 => ?_) (fun c9 => ?_)
    · replace hm := if_f c9 hm
      refine lv_iconst (v := 0) hx hb d_S_mayPair_54 (by decide) ?_
      cases hm
      exact W.zret hx hb hr (by decide) (fun t ht hW => ⟨_, rfl, rfl, ht⟩) (fun _ h => nomatch h) d_S_mayPair_55
    · replace hm := if_t c9 hm
      refine lv_aload_n hx hb d_S_mayPair_22 rfl (lv_at hl 0 rfl) ?_
      refine va_get (D := (dC, dI)) (ci := 4) (v := .ref hq) (C := R_S) (T := F_S) (N := 11) hx hb hts hk1 hown hK hP 0 rfl rfl 5 (by decide) hk2 (fun _ h9 => h9) rfl d_S_mayPair_23 ?_
      refine lv_iload_n hx hb d_S_mayPair_26 rfl (lv_at hl 1 rfl) ?_
      refine lv_iload_n hx hb d_S_mayPair_27 rfl (lv_at hl 2 rfl) ?_
      obtain ⟨r3, hc, hm⟩ := bd hm
      try dsimp only at hm
      refine vp_callSi (W.runV (As := [.int x1, .int x2]) (rest := []) ⟨hx, hb, hml, hown, hts⟩ (c_H_lets l dC dI cI hq hq1 hq2 h_orderOfPiece h_lastDay h_heldOrders x1 x2 N r3 hc) (cwV 2 hts (gV (w0 201 rfl) (w0 202 rfl) (w0 203 rfl) (w0 31 rfl) (w0 204 rfl)) rfl rfl rfl q_H_lets ⟨Nat.le_of_ble_eq_true rfl, Nat.le_of_ble_eq_true rfl⟩) (ro_preV [15, 16, 17] rfl hK hP hN 2 0 (R_H, F_H, 3) rfl rfl) rfl rfl hl.1 rfl (lv_room (Nat.le_of_ble_eq_true rfl)) d_S_mayPair_28 ⟨Nat.le_of_ble_eq_true rfl, Nat.le_of_ble_eq_true rfl⟩) (fun r9 hr9 => ?_)
      subst hr9
      refine lv_if_eq (tgt := 54) hx hb d_S_mayPair_31 (by decide) (fun c9 => ?_) (fun c9 => ?_)
      · replace hm := if_t c9 hm
        refine lv_iconst (v := 0) hx hb d_S_mayPair_54 (by decide) ?_
        cases hm
        exact W.zret hx hb hr (by decide) (fun t ht hW => ⟨_, rfl, rfl, ht⟩) (fun _ h => nomatch h) d_S_mayPair_55
      · replace hm := if_f c9 hm
        refine lv_aload_n hx hb d_S_mayPair_34 rfl (lv_at hl 0 rfl) ?_
        refine va_get (D := (dC, dI)) (ci := 4) (v := .ref pq) (C := R_S) (T := F_S) (N := 11) hx hb hts hk1 hown hK hP 0 rfl rfl 0 (by decide) hk3 (fun _ h9 => h9) rfl d_S_mayPair_35 ?_
        refine lv_iload_n hx hb d_S_mayPair_38 rfl (lv_at hl 1 rfl) ?_
        refine lv_aload_n hx hb d_S_mayPair_39 rfl (lv_at hl 0 rfl) ?_
        refine va_get (D := (dC, dI)) (ci := 4) (v := .ref oq) (C := R_S) (T := F_S) (N := 11) hx hb hts hk1 hown hK hP 0 rfl rfl 1 (by decide) hk4 (fun _ h9 => h9) rfl d_S_mayPair_40 ?_
        refine lv_iload_n hx hb d_S_mayPair_43 rfl (lv_at hl 2 rfl) ?_
        obtain ⟨r4, hc, hm⟩ := bd hm
        try dsimp only at hm
        refine vp_callSi (W.runV (As := [.int x1, .ref oq, .int x2]) (rest := []) ⟨hx, hb, hml, hown, hts⟩ (c_B_suits l dC dI cI pq pq1 pq2 pq3 pq4 oq oq1 oq2 oq3 oq4 p_thicks p_wides p_lengths p_grades p_count o_thicks o_wides o_lengths o_grades o_count x1 x2 N r4 hc) (cwV 3 hts (gV (w0 213 rfl) (w0 214 rfl) (w0 215 rfl) (w0 29 rfl) (w0 216 rfl)) rfl rfl rfl q_B_suits ⟨Nat.le_of_ble_eq_true rfl, Nat.le_of_ble_eq_true rfl⟩) (ro_preV [1, 2, 3, 4, 5, 6, 7, 8, 9, 10] rfl hK hP hN 0 0 (R_B, F_B, 5) rfl rfl) rfl rfl hl.1 rfl (lv_room (Nat.le_of_ble_eq_true rfl)) d_S_mayPair_44 ⟨Nat.le_of_ble_eq_true rfl, Nat.le_of_ble_eq_true rfl⟩) (fun r9 hr9 => ?_)
        subst hr9
        refine lv_if_eq (tgt := 54) hx hb d_S_mayPair_47 (by decide) (fun c9 => ?_) (fun c9 => ?_)
        · replace hm := if_t c9 hm
          refine lv_iconst (v := 0) hx hb d_S_mayPair_54 (by decide) ?_
          cases hm
          exact W.zret hx hb hr (by decide) (fun t ht hW => ⟨_, rfl, rfl, ht⟩) (fun _ h => nomatch h) d_S_mayPair_55
        · replace hm := if_f c9 hm
          refine lv_iconst (v := 1) hx hb d_S_mayPair_50 (by decide) ?_
          refine lv_goto (tgt := 55) hx hb d_S_mayPair_51 (by decide) ?_
          cases hm
          exact W.zret hx hb hr (by decide) (fun t ht hW => ⟨_, rfl, rfl, ht⟩) (fun _ h => nomatch h) d_S_mayPair_55

def w_S_cutPiece : List Cond := .code y_S_cutPiece b_S_cutPiece 3 none :: W0
theorem q_S_cutPiece : y_S_cutPiece.cls = R_S ∧ y_S_cutPiece.cls ≠ "java/lang/invoke/MethodHandle" ∧ y_S_cutPiece.cls ≠ "java/lang/invoke/VarHandle" ∧ (parseMethodDescriptor y_S_cutPiece.desc).map (fun d => d.parameters.length) = some 2 := by decide +kernel
def m_S_cutPiece (u_ordersOfPiece : Nat → Int32) (u_usedOrders : Int32) (h_orderOfPiece : Nat → Int32) (h_heldOrders : Int32) (x1 : Int32) (x2 : Int32) : Option ((Nat → Int32) × Int32 × (Nat → Int32) × Int32) :=
  ((m_U_use u_ordersOfPiece u_usedOrders x1 x2).bind fun (u2, u3) =>
  ((m_H_drop h_orderOfPiece h_heldOrders x1).bind fun (u5, u6) =>
    some (u2, u3, u5, u6)))
set_option maxHeartbeats 4000000 in
set_option maxRecDepth 100000 in
theorem c_S_cutPiece (l : Launch) (dC : Nat → ClassId) (dI : Nat → Nat → Nat) (cI : ClassId) (sq pq pq1 pq2 pq3 pq4 oq oq1 oq2 oq3 oq4 sq3 sq4 uq uq1 hq hq1 hq2 mq mq1 mq2 mq3 mq4 mq5 : Nat) (sz : Nat) (p_thicks : Nat → Int32) (p_wides : Nat → Int32) (p_lengths : Nat → Int32) (p_grades : Nat → Int32) (p_count : Int32) (o_thicks : Nat → Int32) (o_wides : Nat → Int32) (o_lengths : Nat → Int32) (o_grades : Nat → Int32) (o_count : Int32) (s_cameOn : Nat → Int32) (s_told : Nat → Int32) (u_ordersOfPiece : Nat → Int32) (u_usedOrders : Int32) (h_orderOfPiece : Nat → Int32) (h_lastDay : Nat → Int32) (h_heldOrders : Int32) (m_gains : Nat → Int32) (m_best : Nat → Int32) (m_chosen : Nat → Int32) (m_pieceDuals : Nat → Int32) (m_orderDuals : Nat → Int32) (m_pieceCount : Int32) (m_orderCount : Int32) (m_pairs : Int32) (m_worthSum : Int32) (m_upToDate : Int32) (s_today : Int32) (s_cutOff : Int32) (s_agingOff : Int32) (s_saleAge : Int32) (x1 : Int32) (x2 : Int32) (N : Nat) (res : (Nat → Int32) × Int32 × (Nat → Int32) × Int32) (hm : m_S_cutPiece u_ordersOfPiece u_usedOrders h_orderOfPiece h_heldOrders x1 x2 = some res) : Met l y_S_cutPiece w_S_cutPiece ({ frames := 2, cells := 0, slots := 0, locals := 42 } : Room) (va_Pc [.ref sq, .int x1, .int x2] (fun U => U.heap.size = sz ∧ va_P (dC, dI) classes [(sq, .inr (4, [.ref pq, .ref oq, .ref sq3, .ref sq4, .ref uq, .ref hq, .ref mq, .int s_today, .int s_cutOff, .int s_agingOff, .int s_saleAge])), (pq, .inr (0, [.ref pq1, .ref pq2, .ref pq3, .ref pq4, .int p_count])), (pq1, .inl (cI, 10, .inl p_thicks)), (pq2, .inl (cI, 10, .inl p_wides)), (pq3, .inl (cI, 10, .inl p_lengths)), (pq4, .inl (cI, 10, .inl p_grades)), (oq, .inr (0, [.ref oq1, .ref oq2, .ref oq3, .ref oq4, .int o_count])), (oq1, .inl (cI, 10, .inl o_thicks)), (oq2, .inl (cI, 10, .inl o_wides)), (oq3, .inl (cI, 10, .inl o_lengths)), (oq4, .inl (cI, 10, .inl o_grades)), (sq3, .inl (cI, 10, .inl s_cameOn)), (sq4, .inl (cI, 100, .inl s_told)), (uq, .inr (1, [.ref uq1, .int u_usedOrders])), (uq1, .inl (cI, 10, .inl u_ordersOfPiece)), (hq, .inr (2, [.ref hq1, .ref hq2, .int h_heldOrders])), (hq1, .inl (cI, 10, .inl h_orderOfPiece)), (hq2, .inl (cI, 10, .inl h_lastDay)), (mq, .inr (3, [.ref mq1, .ref mq2, .ref mq3, .ref mq4, .ref mq5, .int m_pieceCount, .int m_orderCount, .int m_pairs, .int m_worthSum, .int m_upToDate])), (mq1, .inl (cI, 100, .inl m_gains)), (mq2, .inl (cI, 11264, .inl m_best)), (mq3, .inl (cI, 10, .inl m_chosen)), (mq4, .inl (cI, 10, .inl m_pieceDuals)), (mq5, .inl (cI, 10, .inl m_orderDuals))] U.heap ∧ va_K (dC, dI) classes [(cI, .int)] U ∧ va_D (fun _ => True) [(sq, .inr (4, [.ref pq, .ref oq, .ref sq3, .ref sq4, .ref uq, .ref hq, .ref mq, .int s_today, .int s_cutOff, .int s_agingOff, .int s_saleAge])), (pq, .inr (0, [.ref pq1, .ref pq2, .ref pq3, .ref pq4, .int p_count])), (pq1, .inl (cI, 10, .inl p_thicks)), (pq2, .inl (cI, 10, .inl p_wides)), (pq3, .inl (cI, 10, .inl p_lengths)), (pq4, .inl (cI, 10, .inl p_grades)), (oq, .inr (0, [.ref oq1, .ref oq2, .ref oq3, .ref oq4, .int o_count])), (oq1, .inl (cI, 10, .inl o_thicks)), (oq2, .inl (cI, 10, .inl o_wides)), (oq3, .inl (cI, 10, .inl o_lengths)), (oq4, .inl (cI, 10, .inl o_grades)), (sq3, .inl (cI, 10, .inl s_cameOn)), (sq4, .inl (cI, 100, .inl s_told)), (uq, .inr (1, [.ref uq1, .int u_usedOrders])), (uq1, .inl (cI, 10, .inl u_ordersOfPiece)), (hq, .inr (2, [.ref hq1, .ref hq2, .int h_heldOrders])), (hq1, .inl (cI, 10, .inl h_orderOfPiece)), (hq2, .inl (cI, 10, .inl h_lastDay)), (mq, .inr (3, [.ref mq1, .ref mq2, .ref mq3, .ref mq4, .ref mq5, .int m_pieceCount, .int m_orderCount, .int m_pairs, .int m_worthSum, .int m_upToDate])), (mq1, .inl (cI, 100, .inl m_gains)), (mq2, .inl (cI, 11264, .inl m_best)), (mq3, .inl (cI, 10, .inl m_chosen)), (mq4, .inl (cI, 10, .inl m_pieceDuals)), (mq5, .inl (cI, 10, .inl m_orderDuals))] ∧ nw U)) (va_Qv (fun _ : Unit => True) (fun _ t => va_P (dC, dI) classes [(sq, .inr (4, [.ref pq, .ref oq, .ref sq3, .ref sq4, .ref uq, .ref hq, .ref mq, .int s_today, .int s_cutOff, .int s_agingOff, .int s_saleAge])), (pq, .inr (0, [.ref pq1, .ref pq2, .ref pq3, .ref pq4, .int p_count])), (pq1, .inl (cI, 10, .inl p_thicks)), (pq2, .inl (cI, 10, .inl p_wides)), (pq3, .inl (cI, 10, .inl p_lengths)), (pq4, .inl (cI, 10, .inl p_grades)), (oq, .inr (0, [.ref oq1, .ref oq2, .ref oq3, .ref oq4, .int o_count])), (oq1, .inl (cI, 10, .inl o_thicks)), (oq2, .inl (cI, 10, .inl o_wides)), (oq3, .inl (cI, 10, .inl o_lengths)), (oq4, .inl (cI, 10, .inl o_grades)), (sq3, .inl (cI, 10, .inl s_cameOn)), (sq4, .inl (cI, 100, .inl s_told)), (uq, .inr (1, [.ref uq1, .int res.2.1])), (uq1, .inl (cI, 10, .inl res.1)), (hq, .inr (2, [.ref hq1, .ref hq2, .int res.2.2.2])), (hq1, .inl (cI, 10, .inl res.2.2.1)), (hq2, .inl (cI, 10, .inl h_lastDay)), (mq, .inr (3, [.ref mq1, .ref mq2, .ref mq3, .ref mq4, .ref mq5, .int m_pieceCount, .int m_orderCount, .int m_pairs, .int m_worthSum, .int m_upToDate])), (mq1, .inl (cI, 100, .inl m_gains)), (mq2, .inl (cI, 11264, .inl m_best)), (mq3, .inl (cI, 10, .inl m_chosen)), (mq4, .inl (cI, 10, .inl m_pieceDuals)), (mq5, .inl (cI, 10, .inl m_orderDuals))] t.heap ∧ va_K (dC, dI) classes [(cI, .int)] t ∧ va_D (va_A [(sq, .inr (4, [.ref pq, .ref oq, .ref sq3, .ref sq4, .ref uq, .ref hq, .ref mq, .int s_today, .int s_cutOff, .int s_agingOff, .int s_saleAge])), (pq, .inr (0, [.ref pq1, .ref pq2, .ref pq3, .ref pq4, .int p_count])), (pq1, .inl (cI, 10, .inl p_thicks)), (pq2, .inl (cI, 10, .inl p_wides)), (pq3, .inl (cI, 10, .inl p_lengths)), (pq4, .inl (cI, 10, .inl p_grades)), (oq, .inr (0, [.ref oq1, .ref oq2, .ref oq3, .ref oq4, .int o_count])), (oq1, .inl (cI, 10, .inl o_thicks)), (oq2, .inl (cI, 10, .inl o_wides)), (oq3, .inl (cI, 10, .inl o_lengths)), (oq4, .inl (cI, 10, .inl o_grades)), (sq3, .inl (cI, 10, .inl s_cameOn)), (sq4, .inl (cI, 100, .inl s_told)), (uq, .inr (1, [.ref uq1, .int u_usedOrders])), (uq1, .inl (cI, 10, .inl u_ordersOfPiece)), (hq, .inr (2, [.ref hq1, .ref hq2, .int h_heldOrders])), (hq1, .inl (cI, 10, .inl h_orderOfPiece)), (hq2, .inl (cI, 10, .inl h_lastDay)), (mq, .inr (3, [.ref mq1, .ref mq2, .ref mq3, .ref mq4, .ref mq5, .int m_pieceCount, .int m_orderCount, .int m_pairs, .int m_worthSum, .int m_upToDate])), (mq1, .inl (cI, 100, .inl m_gains)), (mq2, .inl (cI, 11264, .inl m_best)), (mq3, .inl (cI, 10, .inl m_chosen)), (mq4, .inl (cI, 10, .inl m_pieceDuals)), (mq5, .inl (cI, 10, .inl m_orderDuals))] sz) [(sq, .inr (4, [.ref pq, .ref oq, .ref sq3, .ref sq4, .ref uq, .ref hq, .ref mq, .int s_today, .int s_cutOff, .int s_agingOff, .int s_saleAge])), (pq, .inr (0, [.ref pq1, .ref pq2, .ref pq3, .ref pq4, .int p_count])), (pq1, .inl (cI, 10, .inl p_thicks)), (pq2, .inl (cI, 10, .inl p_wides)), (pq3, .inl (cI, 10, .inl p_lengths)), (pq4, .inl (cI, 10, .inl p_grades)), (oq, .inr (0, [.ref oq1, .ref oq2, .ref oq3, .ref oq4, .int o_count])), (oq1, .inl (cI, 10, .inl o_thicks)), (oq2, .inl (cI, 10, .inl o_wides)), (oq3, .inl (cI, 10, .inl o_lengths)), (oq4, .inl (cI, 10, .inl o_grades)), (sq3, .inl (cI, 10, .inl s_cameOn)), (sq4, .inl (cI, 100, .inl s_told)), (uq, .inr (1, [.ref uq1, .int res.2.1])), (uq1, .inl (cI, 10, .inl res.1)), (hq, .inr (2, [.ref hq1, .ref hq2, .int res.2.2.2])), (hq1, .inl (cI, 10, .inl res.2.2.1)), (hq2, .inl (cI, 10, .inl h_lastDay)), (mq, .inr (3, [.ref mq1, .ref mq2, .ref mq3, .ref mq4, .ref mq5, .int m_pieceCount, .int m_orderCount, .int m_pairs, .int m_worthSum, .int m_upToDate])), (mq1, .inl (cI, 100, .inl m_gains)), (mq2, .inl (cI, 11264, .inl m_best)), (mq3, .inl (cI, 10, .inl m_chosen)), (mq4, .inl (cI, 10, .inl m_pieceDuals)), (mq5, .inl (cI, 10, .inl m_orderDuals))]) (va_A [(sq, .inr (4, [.ref pq, .ref oq, .ref sq3, .ref sq4, .ref uq, .ref hq, .ref mq, .int s_today, .int s_cutOff, .int s_agingOff, .int s_saleAge])), (pq, .inr (0, [.ref pq1, .ref pq2, .ref pq3, .ref pq4, .int p_count])), (pq1, .inl (cI, 10, .inl p_thicks)), (pq2, .inl (cI, 10, .inl p_wides)), (pq3, .inl (cI, 10, .inl p_lengths)), (pq4, .inl (cI, 10, .inl p_grades)), (oq, .inr (0, [.ref oq1, .ref oq2, .ref oq3, .ref oq4, .int o_count])), (oq1, .inl (cI, 10, .inl o_thicks)), (oq2, .inl (cI, 10, .inl o_wides)), (oq3, .inl (cI, 10, .inl o_lengths)), (oq4, .inl (cI, 10, .inl o_grades)), (sq3, .inl (cI, 10, .inl s_cameOn)), (sq4, .inl (cI, 100, .inl s_told)), (uq, .inr (1, [.ref uq1, .int u_usedOrders])), (uq1, .inl (cI, 10, .inl u_ordersOfPiece)), (hq, .inr (2, [.ref hq1, .ref hq2, .int h_heldOrders])), (hq1, .inl (cI, 10, .inl h_orderOfPiece)), (hq2, .inl (cI, 10, .inl h_lastDay)), (mq, .inr (3, [.ref mq1, .ref mq2, .ref mq3, .ref mq4, .ref mq5, .int m_pieceCount, .int m_orderCount, .int m_pairs, .int m_worthSum, .int m_upToDate])), (mq1, .inl (cI, 100, .inl m_gains)), (mq2, .inl (cI, 11264, .inl m_best)), (mq3, .inl (cI, 10, .inl m_chosen)), (mq4, .inl (cI, 10, .inl m_pieceDuals)), (mq5, .inl (cI, 10, .inl m_orderDuals))] sz)) 0 0 (va_A [(sq, .inr (4, [.ref pq, .ref oq, .ref sq3, .ref sq4, .ref uq, .ref hq, .ref mq, .int s_today, .int s_cutOff, .int s_agingOff, .int s_saleAge])), (pq, .inr (0, [.ref pq1, .ref pq2, .ref pq3, .ref pq4, .int p_count])), (pq1, .inl (cI, 10, .inl p_thicks)), (pq2, .inl (cI, 10, .inl p_wides)), (pq3, .inl (cI, 10, .inl p_lengths)), (pq4, .inl (cI, 10, .inl p_grades)), (oq, .inr (0, [.ref oq1, .ref oq2, .ref oq3, .ref oq4, .int o_count])), (oq1, .inl (cI, 10, .inl o_thicks)), (oq2, .inl (cI, 10, .inl o_wides)), (oq3, .inl (cI, 10, .inl o_lengths)), (oq4, .inl (cI, 10, .inl o_grades)), (sq3, .inl (cI, 10, .inl s_cameOn)), (sq4, .inl (cI, 100, .inl s_told)), (uq, .inr (1, [.ref uq1, .int u_usedOrders])), (uq1, .inl (cI, 10, .inl u_ordersOfPiece)), (hq, .inr (2, [.ref hq1, .ref hq2, .int h_heldOrders])), (hq1, .inl (cI, 10, .inl h_orderOfPiece)), (hq2, .inl (cI, 10, .inl h_lastDay)), (mq, .inr (3, [.ref mq1, .ref mq2, .ref mq3, .ref mq4, .ref mq5, .int m_pieceCount, .int m_orderCount, .int m_pairs, .int m_worthSum, .int m_upToDate])), (mq1, .inl (cI, 100, .inl m_gains)), (mq2, .inl (cI, 11264, .inl m_best)), (mq3, .inl (cI, 10, .inl m_chosen)), (mq4, .inl (cI, 10, .inl m_pieceDuals)), (mq5, .inl (cI, 10, .inl m_orderDuals))] sz) := by
  unfold m_S_cutPiece at hm
  refine Met.ofW (cc := b_S_cutPiece) (maxL := 3) (ret := none) (by decide) rfl ?_
  intro p e s m args below meth c s₁ B hml hv
  obtain ⟨rfl, hsz, hP, hK, hD0, hN⟩ := hv
  have hx := B.exec
  have hb := B.bytes
  have hr := B.returns
  have hts := atoms_spec (ws := w_S_cutPiece) B.pre
  have hown : s.vm.findClass R_S = some m.cls := findClass_of_methodNamed B.named
  have hlocks := B.notSynchronized
  subst hsz
  have hD := hD0.self (sz := s.heap.size)
  generalize hAe : va_A [(sq, .inr (4, [.ref pq, .ref oq, .ref sq3, .ref sq4, .ref uq, .ref hq, .ref mq, .int s_today, .int s_cutOff, .int s_agingOff, .int s_saleAge])), (pq, .inr (0, [.ref pq1, .ref pq2, .ref pq3, .ref pq4, .int p_count])), (pq1, .inl (cI, 10, .inl p_thicks)), (pq2, .inl (cI, 10, .inl p_wides)), (pq3, .inl (cI, 10, .inl p_lengths)), (pq4, .inl (cI, 10, .inl p_grades)), (oq, .inr (0, [.ref oq1, .ref oq2, .ref oq3, .ref oq4, .int o_count])), (oq1, .inl (cI, 10, .inl o_thicks)), (oq2, .inl (cI, 10, .inl o_wides)), (oq3, .inl (cI, 10, .inl o_lengths)), (oq4, .inl (cI, 10, .inl o_grades)), (sq3, .inl (cI, 10, .inl s_cameOn)), (sq4, .inl (cI, 100, .inl s_told)), (uq, .inr (1, [.ref uq1, .int u_usedOrders])), (uq1, .inl (cI, 10, .inl u_ordersOfPiece)), (hq, .inr (2, [.ref hq1, .ref hq2, .int h_heldOrders])), (hq1, .inl (cI, 10, .inl h_orderOfPiece)), (hq2, .inl (cI, 10, .inl h_lastDay)), (mq, .inr (3, [.ref mq1, .ref mq2, .ref mq3, .ref mq4, .ref mq5, .int m_pieceCount, .int m_orderCount, .int m_pairs, .int m_worthSum, .int m_upToDate])), (mq1, .inl (cI, 100, .inl m_gains)), (mq2, .inl (cI, 11264, .inl m_best)), (mq3, .inl (cI, 10, .inl m_chosen)), (mq4, .inl (cI, 10, .inl m_pieceDuals)), (mq5, .inl (cI, 10, .inl m_orderDuals))] s.heap.size = A at hD ⊢
  have hA : ∀ q : Nat, s.heap.size ≤ q → A q := fun q h => by rw [← hAe]; exact Or.inr h
  have hS : va_S A s.heap s.heap [] := va_S.rf
  have hk0 := hts (.fieldLink R_S 29 "SurplusMatch" "uses" "LSurplusMatch$Uses;") (List.mem_cons_of_mem _ (w0 145 rfl))
  have hk1 : ∀ w ∈ w_S, w ∈ w_S_cutPiece := fun w h => List.mem_cons_of_mem _ (i_S w h)
  have hk2 := hts (.fieldLink R_S 36 "SurplusMatch" "holds" "LSurplusMatch$Holds;") (List.mem_cons_of_mem _ (w0 146 rfl))
  have hl := lv_entry ([.ref sq, .int x1, .int x2]) (n := 3) (Nat.le_of_ble_eq_true rfl)
  rw [lg_entry_eq]
  generalize (lg_sl ([.ref sq, .int x1, .int x2]) ++ List.replicate (3 - (lg_sl ([.ref sq, .int x1, .int x2])).length) Slot.unset).toArray = ls at hl ⊢
  have hl : lv_has ls 3 [(0, .ref sq), (1, .int x1), (2, .int x2)] := hl
  refine lv_aload_n hx hb d_S_cutPiece_0 rfl (lv_at hl 0 rfl) ?_
  refine va_get (D := (dC, dI)) (ci := 4) (v := .ref uq) (C := R_S) (T := F_S) (N := 11) hx hb hts hk1 hown hK hP 0 rfl rfl 4 (by decide) hk0 (fun _ h9 => h9) rfl d_S_cutPiece_1 ?_
  refine lv_iload_n hx hb d_S_cutPiece_4 rfl (lv_at hl 1 rfl) ?_
  refine lv_iload_n hx hb d_S_cutPiece_5 rfl (lv_at hl 2 rfl) ?_
  obtain ⟨⟨u2, u3⟩, hc, hm⟩ := bd hm
  try dsimp only at hm
  have hPc := hP.sub (ws' := [(uq, .inr (1, [.ref uq1, .int u_usedOrders])), (uq1, .inl (cI, 10, .inl u_ordersOfPiece))]) [13, 14] rfl
  have hDc := hD.sub (ws' := [(uq, .inr (1, [.ref uq1, .int u_usedOrders])), (uq1, .inl (cI, 10, .inl u_ordersOfPiece))]) [13, 14] (by decide) rfl
  have hFc := va_free (wc := [(uq, .inr (1, [.ref uq1, .int u_usedOrders])), (uq1, .inl (cI, 10, .inl u_ordersOfPiece))]) hD hS hA [13, 14] rfl
  refine va_callv (va_runV (As := [.int x1, .int x2]) (rest := []) ⟨hx, hb, hml, hown, hts⟩ (c_U_use l dC dI cI uq uq1 s.heap.size u_ordersOfPiece u_usedOrders x1 x2 N (u2, u3) hc) (cwV 2 hts (gV (w0 269 rfl) (w0 270 rfl) (w0 271 rfl) (w0 30 rfl) (w0 272 rfl)) rfl rfl rfl q_U_use ⟨Nat.le_of_ble_eq_true rfl, Nat.le_of_ble_eq_true rfl⟩) (wr_preV hK hPc hDc hN 1 0 (R_U, F_U, 2) rfl rfl) rfl rfl hl.1 rfl (lv_room (Nat.le_of_ble_eq_true rfl)) d_S_cutPiece_6 ⟨Nat.le_of_ble_eq_true rfl, Nat.le_of_ble_eq_true rfl⟩) hS (fun q _ h => hFc q h) hFc (fun u t H1 locs ht hvm hw hB hz1 hk1 hS => ?_)
  obtain ⟨hP1, hK1, hD1⟩ := hB
  rw [ht] at hP1
  obtain ⟨hP, hD⟩ := va_join (wr := [(sq, .inr (4, [.ref pq, .ref oq, .ref sq3, .ref sq4, .ref uq, .ref hq, .ref mq, .int s_today, .int s_cutOff, .int s_agingOff, .int s_saleAge])), (pq, .inr (0, [.ref pq1, .ref pq2, .ref pq3, .ref pq4, .int p_count])), (pq1, .inl (cI, 10, .inl p_thicks)), (pq2, .inl (cI, 10, .inl p_wides)), (pq3, .inl (cI, 10, .inl p_lengths)), (pq4, .inl (cI, 10, .inl p_grades)), (oq, .inr (0, [.ref oq1, .ref oq2, .ref oq3, .ref oq4, .int o_count])), (oq1, .inl (cI, 10, .inl o_thicks)), (oq2, .inl (cI, 10, .inl o_wides)), (oq3, .inl (cI, 10, .inl o_lengths)), (oq4, .inl (cI, 10, .inl o_grades)), (sq3, .inl (cI, 10, .inl s_cameOn)), (sq4, .inl (cI, 100, .inl s_told)), (hq, .inr (2, [.ref hq1, .ref hq2, .int h_heldOrders])), (hq1, .inl (cI, 10, .inl h_orderOfPiece)), (hq2, .inl (cI, 10, .inl h_lastDay)), (mq, .inr (3, [.ref mq1, .ref mq2, .ref mq3, .ref mq4, .ref mq5, .int m_pieceCount, .int m_orderCount, .int m_pairs, .int m_worthSum, .int m_upToDate])), (mq1, .inl (cI, 100, .inl m_gains)), (mq2, .inl (cI, 11264, .inl m_best)), (mq3, .inl (cI, 10, .inl m_chosen)), (mq4, .inl (cI, 10, .inl m_pieceDuals)), (mq5, .inl (cI, 10, .inl m_orderDuals))]) (w1 := [(uq, .inr (1, [.ref uq1, .int u3])), (uq1, .inl (cI, 10, .inl u2))]) hP hD [13, 14] [0, 1, 2, 3, 4, 5, 6, 7, 8, 9, 10, 11, 12, 15, 16, 17, 18, 19, 20, 21, 22, 23] rfl rfl (by decide) (by decide) hk1 hFc hP1 hD1
  generalize H1 = H at hP hS ⊢
  have hP : va_P (dC, dI) classes [(sq, .inr (4, [.ref pq, .ref oq, .ref sq3, .ref sq4, .ref uq, .ref hq, .ref mq, .int s_today, .int s_cutOff, .int s_agingOff, .int s_saleAge])), (pq, .inr (0, [.ref pq1, .ref pq2, .ref pq3, .ref pq4, .int p_count])), (pq1, .inl (cI, 10, .inl p_thicks)), (pq2, .inl (cI, 10, .inl p_wides)), (pq3, .inl (cI, 10, .inl p_lengths)), (pq4, .inl (cI, 10, .inl p_grades)), (oq, .inr (0, [.ref oq1, .ref oq2, .ref oq3, .ref oq4, .int o_count])), (oq1, .inl (cI, 10, .inl o_thicks)), (oq2, .inl (cI, 10, .inl o_wides)), (oq3, .inl (cI, 10, .inl o_lengths)), (oq4, .inl (cI, 10, .inl o_grades)), (sq3, .inl (cI, 10, .inl s_cameOn)), (sq4, .inl (cI, 100, .inl s_told)), (hq, .inr (2, [.ref hq1, .ref hq2, .int h_heldOrders])), (hq1, .inl (cI, 10, .inl h_orderOfPiece)), (hq2, .inl (cI, 10, .inl h_lastDay)), (mq, .inr (3, [.ref mq1, .ref mq2, .ref mq3, .ref mq4, .ref mq5, .int m_pieceCount, .int m_orderCount, .int m_pairs, .int m_worthSum, .int m_upToDate])), (mq1, .inl (cI, 100, .inl m_gains)), (mq2, .inl (cI, 11264, .inl m_best)), (mq3, .inl (cI, 10, .inl m_chosen)), (mq4, .inl (cI, 10, .inl m_pieceDuals)), (mq5, .inl (cI, 10, .inl m_orderDuals)), (uq, .inr (1, [.ref uq1, .int u3])), (uq1, .inl (cI, 10, .inl u2))] H := hP
  have hD : va_D A [(sq, .inr (4, [.ref pq, .ref oq, .ref sq3, .ref sq4, .ref uq, .ref hq, .ref mq, .int s_today, .int s_cutOff, .int s_agingOff, .int s_saleAge])), (pq, .inr (0, [.ref pq1, .ref pq2, .ref pq3, .ref pq4, .int p_count])), (pq1, .inl (cI, 10, .inl p_thicks)), (pq2, .inl (cI, 10, .inl p_wides)), (pq3, .inl (cI, 10, .inl p_lengths)), (pq4, .inl (cI, 10, .inl p_grades)), (oq, .inr (0, [.ref oq1, .ref oq2, .ref oq3, .ref oq4, .int o_count])), (oq1, .inl (cI, 10, .inl o_thicks)), (oq2, .inl (cI, 10, .inl o_wides)), (oq3, .inl (cI, 10, .inl o_lengths)), (oq4, .inl (cI, 10, .inl o_grades)), (sq3, .inl (cI, 10, .inl s_cameOn)), (sq4, .inl (cI, 100, .inl s_told)), (hq, .inr (2, [.ref hq1, .ref hq2, .int h_heldOrders])), (hq1, .inl (cI, 10, .inl h_orderOfPiece)), (hq2, .inl (cI, 10, .inl h_lastDay)), (mq, .inr (3, [.ref mq1, .ref mq2, .ref mq3, .ref mq4, .ref mq5, .int m_pieceCount, .int m_orderCount, .int m_pairs, .int m_worthSum, .int m_upToDate])), (mq1, .inl (cI, 100, .inl m_gains)), (mq2, .inl (cI, 11264, .inl m_best)), (mq3, .inl (cI, 10, .inl m_chosen)), (mq4, .inl (cI, 10, .inl m_pieceDuals)), (mq5, .inl (cI, 10, .inl m_orderDuals)), (uq, .inr (1, [.ref uq1, .int u3])), (uq1, .inl (cI, 10, .inl u2))] := hD
  clear hP1 hD1 hPc hDc hFc hk1 hz1
  refine lv_aload_n hx hb d_S_cutPiece_9 rfl (lv_at hl 0 rfl) ?_
  refine va_get (D := (dC, dI)) (ci := 4) (v := .ref hq) (C := R_S) (T := F_S) (N := 11) hx hb hts hk1 hown hK hP 0 rfl rfl 5 (by decide) hk2 (fun _ h9 => h9) rfl d_S_cutPiece_10 ?_
  refine lv_iload_n hx hb d_S_cutPiece_13 rfl (lv_at hl 1 rfl) ?_
  obtain ⟨⟨u5, u6⟩, hc, hm⟩ := bd hm
  try dsimp only at hm
  have hPc := hP.sub (ws' := [(hq, .inr (2, [.ref hq1, .ref hq2, .int h_heldOrders])), (hq1, .inl (cI, 10, .inl h_orderOfPiece)), (hq2, .inl (cI, 10, .inl h_lastDay))]) [13, 14, 15] rfl
  have hDc := hD.sub (ws' := [(hq, .inr (2, [.ref hq1, .ref hq2, .int h_heldOrders])), (hq1, .inl (cI, 10, .inl h_orderOfPiece)), (hq2, .inl (cI, 10, .inl h_lastDay))]) [13, 14, 15] (by decide) rfl
  have hFc := va_free (wc := [(hq, .inr (2, [.ref hq1, .ref hq2, .int h_heldOrders])), (hq1, .inl (cI, 10, .inl h_orderOfPiece)), (hq2, .inl (cI, 10, .inl h_lastDay))]) hD hS hA [13, 14, 15] rfl
  refine va_callv (va_runV (As := [.int x1]) (rest := []) ⟨hx, hb, hml, hown, hts⟩ (c_H_drop l dC dI cI hq hq1 hq2 H.size h_orderOfPiece h_lastDay h_heldOrders x1 N (u5, u6) hc) (cwV 1 hts (gV (w0 273 rfl) (w0 274 rfl) (w0 275 rfl) (w0 31 rfl) (w0 276 rfl)) rfl rfl rfl q_H_drop ⟨Nat.le_of_ble_eq_true rfl, Nat.le_of_ble_eq_true rfl⟩) (wr_preV hK hPc hDc hN 2 0 (R_H, F_H, 3) rfl rfl) rfl rfl hl.1 rfl (lv_room (Nat.le_of_ble_eq_true rfl)) d_S_cutPiece_14 ⟨Nat.le_of_ble_eq_true rfl, Nat.le_of_ble_eq_true rfl⟩) hS (fun q _ h => hFc q h) hFc (fun u t H1 locs ht hvm hw hB hz1 hk1 hS => ?_)
  obtain ⟨hP1, hK1, hD1⟩ := hB
  rw [ht] at hP1
  obtain ⟨hP, hD⟩ := va_join (wr := [(sq, .inr (4, [.ref pq, .ref oq, .ref sq3, .ref sq4, .ref uq, .ref hq, .ref mq, .int s_today, .int s_cutOff, .int s_agingOff, .int s_saleAge])), (pq, .inr (0, [.ref pq1, .ref pq2, .ref pq3, .ref pq4, .int p_count])), (pq1, .inl (cI, 10, .inl p_thicks)), (pq2, .inl (cI, 10, .inl p_wides)), (pq3, .inl (cI, 10, .inl p_lengths)), (pq4, .inl (cI, 10, .inl p_grades)), (oq, .inr (0, [.ref oq1, .ref oq2, .ref oq3, .ref oq4, .int o_count])), (oq1, .inl (cI, 10, .inl o_thicks)), (oq2, .inl (cI, 10, .inl o_wides)), (oq3, .inl (cI, 10, .inl o_lengths)), (oq4, .inl (cI, 10, .inl o_grades)), (sq3, .inl (cI, 10, .inl s_cameOn)), (sq4, .inl (cI, 100, .inl s_told)), (mq, .inr (3, [.ref mq1, .ref mq2, .ref mq3, .ref mq4, .ref mq5, .int m_pieceCount, .int m_orderCount, .int m_pairs, .int m_worthSum, .int m_upToDate])), (mq1, .inl (cI, 100, .inl m_gains)), (mq2, .inl (cI, 11264, .inl m_best)), (mq3, .inl (cI, 10, .inl m_chosen)), (mq4, .inl (cI, 10, .inl m_pieceDuals)), (mq5, .inl (cI, 10, .inl m_orderDuals)), (uq, .inr (1, [.ref uq1, .int u3])), (uq1, .inl (cI, 10, .inl u2))]) (w1 := [(hq, .inr (2, [.ref hq1, .ref hq2, .int u6])), (hq1, .inl (cI, 10, .inl u5)), (hq2, .inl (cI, 10, .inl h_lastDay))]) hP hD [13, 14, 15] [0, 1, 2, 3, 4, 5, 6, 7, 8, 9, 10, 11, 12, 16, 17, 18, 19, 20, 21, 22, 23] rfl rfl (by decide) (by decide) hk1 hFc hP1 hD1
  generalize H1 = H at hP hS ⊢
  have hP : va_P (dC, dI) classes [(sq, .inr (4, [.ref pq, .ref oq, .ref sq3, .ref sq4, .ref uq, .ref hq, .ref mq, .int s_today, .int s_cutOff, .int s_agingOff, .int s_saleAge])), (pq, .inr (0, [.ref pq1, .ref pq2, .ref pq3, .ref pq4, .int p_count])), (pq1, .inl (cI, 10, .inl p_thicks)), (pq2, .inl (cI, 10, .inl p_wides)), (pq3, .inl (cI, 10, .inl p_lengths)), (pq4, .inl (cI, 10, .inl p_grades)), (oq, .inr (0, [.ref oq1, .ref oq2, .ref oq3, .ref oq4, .int o_count])), (oq1, .inl (cI, 10, .inl o_thicks)), (oq2, .inl (cI, 10, .inl o_wides)), (oq3, .inl (cI, 10, .inl o_lengths)), (oq4, .inl (cI, 10, .inl o_grades)), (sq3, .inl (cI, 10, .inl s_cameOn)), (sq4, .inl (cI, 100, .inl s_told)), (mq, .inr (3, [.ref mq1, .ref mq2, .ref mq3, .ref mq4, .ref mq5, .int m_pieceCount, .int m_orderCount, .int m_pairs, .int m_worthSum, .int m_upToDate])), (mq1, .inl (cI, 100, .inl m_gains)), (mq2, .inl (cI, 11264, .inl m_best)), (mq3, .inl (cI, 10, .inl m_chosen)), (mq4, .inl (cI, 10, .inl m_pieceDuals)), (mq5, .inl (cI, 10, .inl m_orderDuals)), (uq, .inr (1, [.ref uq1, .int u3])), (uq1, .inl (cI, 10, .inl u2)), (hq, .inr (2, [.ref hq1, .ref hq2, .int u6])), (hq1, .inl (cI, 10, .inl u5)), (hq2, .inl (cI, 10, .inl h_lastDay))] H := hP
  have hD : va_D A [(sq, .inr (4, [.ref pq, .ref oq, .ref sq3, .ref sq4, .ref uq, .ref hq, .ref mq, .int s_today, .int s_cutOff, .int s_agingOff, .int s_saleAge])), (pq, .inr (0, [.ref pq1, .ref pq2, .ref pq3, .ref pq4, .int p_count])), (pq1, .inl (cI, 10, .inl p_thicks)), (pq2, .inl (cI, 10, .inl p_wides)), (pq3, .inl (cI, 10, .inl p_lengths)), (pq4, .inl (cI, 10, .inl p_grades)), (oq, .inr (0, [.ref oq1, .ref oq2, .ref oq3, .ref oq4, .int o_count])), (oq1, .inl (cI, 10, .inl o_thicks)), (oq2, .inl (cI, 10, .inl o_wides)), (oq3, .inl (cI, 10, .inl o_lengths)), (oq4, .inl (cI, 10, .inl o_grades)), (sq3, .inl (cI, 10, .inl s_cameOn)), (sq4, .inl (cI, 100, .inl s_told)), (mq, .inr (3, [.ref mq1, .ref mq2, .ref mq3, .ref mq4, .ref mq5, .int m_pieceCount, .int m_orderCount, .int m_pairs, .int m_worthSum, .int m_upToDate])), (mq1, .inl (cI, 100, .inl m_gains)), (mq2, .inl (cI, 11264, .inl m_best)), (mq3, .inl (cI, 10, .inl m_chosen)), (mq4, .inl (cI, 10, .inl m_pieceDuals)), (mq5, .inl (cI, 10, .inl m_orderDuals)), (uq, .inr (1, [.ref uq1, .int u3])), (uq1, .inl (cI, 10, .inl u2)), (hq, .inr (2, [.ref hq1, .ref hq2, .int u6])), (hq1, .inl (cI, 10, .inl u5)), (hq2, .inl (cI, 10, .inl h_lastDay))] := hD
  clear hP1 hD1 hPc hDc hFc hk1 hz1
  cases hm
  have hP := hP.sub (ws' := [(sq, .inr (4, [.ref pq, .ref oq, .ref sq3, .ref sq4, .ref uq, .ref hq, .ref mq, .int s_today, .int s_cutOff, .int s_agingOff, .int s_saleAge])), (pq, .inr (0, [.ref pq1, .ref pq2, .ref pq3, .ref pq4, .int p_count])), (pq1, .inl (cI, 10, .inl p_thicks)), (pq2, .inl (cI, 10, .inl p_wides)), (pq3, .inl (cI, 10, .inl p_lengths)), (pq4, .inl (cI, 10, .inl p_grades)), (oq, .inr (0, [.ref oq1, .ref oq2, .ref oq3, .ref oq4, .int o_count])), (oq1, .inl (cI, 10, .inl o_thicks)), (oq2, .inl (cI, 10, .inl o_wides)), (oq3, .inl (cI, 10, .inl o_lengths)), (oq4, .inl (cI, 10, .inl o_grades)), (sq3, .inl (cI, 10, .inl s_cameOn)), (sq4, .inl (cI, 100, .inl s_told)), (uq, .inr (1, [.ref uq1, .int u3])), (uq1, .inl (cI, 10, .inl u2)), (hq, .inr (2, [.ref hq1, .ref hq2, .int u6])), (hq1, .inl (cI, 10, .inl u5)), (hq2, .inl (cI, 10, .inl h_lastDay)), (mq, .inr (3, [.ref mq1, .ref mq2, .ref mq3, .ref mq4, .ref mq5, .int m_pieceCount, .int m_orderCount, .int m_pairs, .int m_worthSum, .int m_upToDate])), (mq1, .inl (cI, 100, .inl m_gains)), (mq2, .inl (cI, 11264, .inl m_best)), (mq3, .inl (cI, 10, .inl m_chosen)), (mq4, .inl (cI, 10, .inl m_pieceDuals)), (mq5, .inl (cI, 10, .inl m_orderDuals))]) [0, 1, 2, 3, 4, 5, 6, 7, 8, 9, 10, 11, 12, 19, 20, 21, 22, 23, 13, 14, 15, 16, 17, 18] rfl
  have hD := hD.sub (ws' := [(sq, .inr (4, [.ref pq, .ref oq, .ref sq3, .ref sq4, .ref uq, .ref hq, .ref mq, .int s_today, .int s_cutOff, .int s_agingOff, .int s_saleAge])), (pq, .inr (0, [.ref pq1, .ref pq2, .ref pq3, .ref pq4, .int p_count])), (pq1, .inl (cI, 10, .inl p_thicks)), (pq2, .inl (cI, 10, .inl p_wides)), (pq3, .inl (cI, 10, .inl p_lengths)), (pq4, .inl (cI, 10, .inl p_grades)), (oq, .inr (0, [.ref oq1, .ref oq2, .ref oq3, .ref oq4, .int o_count])), (oq1, .inl (cI, 10, .inl o_thicks)), (oq2, .inl (cI, 10, .inl o_wides)), (oq3, .inl (cI, 10, .inl o_lengths)), (oq4, .inl (cI, 10, .inl o_grades)), (sq3, .inl (cI, 10, .inl s_cameOn)), (sq4, .inl (cI, 100, .inl s_told)), (uq, .inr (1, [.ref uq1, .int u3])), (uq1, .inl (cI, 10, .inl u2)), (hq, .inr (2, [.ref hq1, .ref hq2, .int u6])), (hq1, .inl (cI, 10, .inl u5)), (hq2, .inl (cI, 10, .inl h_lastDay)), (mq, .inr (3, [.ref mq1, .ref mq2, .ref mq3, .ref mq4, .ref mq5, .int m_pieceCount, .int m_orderCount, .int m_pairs, .int m_worthSum, .int m_upToDate])), (mq1, .inl (cI, 100, .inl m_gains)), (mq2, .inl (cI, 11264, .inl m_best)), (mq3, .inl (cI, 10, .inl m_chosen)), (mq4, .inl (cI, 10, .inl m_pieceDuals)), (mq5, .inl (cI, 10, .inl m_orderDuals))]) [0, 1, 2, 3, 4, 5, 6, 7, 8, 9, 10, 11, 12, 19, 20, 21, 22, 23, 13, 14, 15, 16, 17, 18] (by decide) rfl
  refine W.widen (k := 0) (n := 0) (Nat.le_of_ble_eq_true rfl) (Nat.le_of_ble_eq_true rfl) ?_
  exact W.vret hx hb hr (fun t ht hW => ⟨⟨(), rfl, trivial, by rw [ht]; exact hP, va_K.moved hW.alike hK, hD⟩, hS.F ht⟩) hS.2.2 d_S_cutPiece_17

def w_S_offerPairs : List Cond := .code y_S_offerPairs b_S_offerPairs 3 none :: W0
theorem q_S_offerPairs : y_S_offerPairs.cls = R_S ∧ y_S_offerPairs.cls ≠ "java/lang/invoke/MethodHandle" ∧ y_S_offerPairs.cls ≠ "java/lang/invoke/VarHandle" ∧ (parseMethodDescriptor y_S_offerPairs.desc).map (fun d => d.parameters.length) = some 0 := by decide +kernel
def L_S_offerPairs_22 (N : Nat) (p_thicks : Nat → Int32) (p_wides : Nat → Int32) (p_lengths : Nat → Int32) (p_grades : Nat → Int32) (o_thicks : Nat → Int32) (o_wides : Nat → Int32) (o_lengths : Nat → Int32) (o_grades : Nat → Int32) (o_count : Int32) (s_cameOn : Nat → Int32) (s_told : Nat → Int32) (u_ordersOfPiece : Nat → Int32) (u_usedOrders : Int32) (h_orderOfPiece : Nat → Int32) (h_heldOrders : Int32) (s_today : Int32) (s_cutOff : Int32) (s_agingOff : Int32) (K : Int32 → Int32 → (Nat → Int32) → Option (Nat → Int32)) : Nat → Int32 → Int32 → (Nat → Int32) → Option (Nat → Int32)
  | 0, _, _, _ => none
  | n + 1, y1b, y2b, m_gainsb =>
    ((m_B_size o_count).bind fun r4 =>
    (if r4 ≤ y2b then
      K y1b y2b m_gainsb
     else
      ((m_S_mayPair p_thicks p_wides p_lengths p_grades o_thicks o_wides o_lengths o_grades u_ordersOfPiece u_usedOrders h_orderOfPiece h_heldOrders y1b y2b).bind fun r5 =>
        (if r5 = 0 then
          L_S_offerPairs_22 N p_thicks p_wides p_lengths p_grades o_thicks o_wides o_lengths o_grades o_count s_cameOn s_told u_ordersOfPiece u_usedOrders h_orderOfPiece h_heldOrders s_today s_cutOff s_agingOff K n y1b (y2b + 1) m_gainsb
         else
          ((m_S_worthToday p_wides p_lengths o_wides o_lengths s_cameOn s_told s_today s_cutOff s_agingOff y1b y2b).bind fun r6 =>
            ((m_M_offer m_gainsb y1b y2b r6).bind fun u8 =>
              L_S_offerPairs_22 N p_thicks p_wides p_lengths p_grades o_thicks o_wides o_lengths o_grades o_count s_cameOn s_told u_ordersOfPiece u_usedOrders h_orderOfPiece h_heldOrders s_today s_cutOff s_agingOff K n y1b (y2b + 1) u8))))))
def L_S_offerPairs_9 (N : Nat) (p_thicks : Nat → Int32) (p_wides : Nat → Int32) (p_lengths : Nat → Int32) (p_grades : Nat → Int32) (p_count : Int32) (o_thicks : Nat → Int32) (o_wides : Nat → Int32) (o_lengths : Nat → Int32) (o_grades : Nat → Int32) (o_count : Int32) (s_cameOn : Nat → Int32) (s_told : Nat → Int32) (u_ordersOfPiece : Nat → Int32) (u_usedOrders : Int32) (h_orderOfPiece : Nat → Int32) (h_heldOrders : Int32) (s_today : Int32) (s_cutOff : Int32) (s_agingOff : Int32) (K : Int32 → (Nat → Int32) → Option (Nat → Int32)) : Nat → Int32 → (Nat → Int32) → Option (Nat → Int32)
  | 0, _, _ => none
  | n + 1, y1a, m_gainsa =>
    ((m_B_size p_count).bind fun r3 =>
    (if r3 ≤ y1a then
      K y1a m_gainsa
     else
      L_S_offerPairs_22 N p_thicks p_wides p_lengths p_grades o_thicks o_wides o_lengths o_grades o_count s_cameOn s_told u_ordersOfPiece u_usedOrders h_orderOfPiece h_heldOrders s_today s_cutOff s_agingOff (fun y1b y2b m_gainsb =>
        L_S_offerPairs_9 N p_thicks p_wides p_lengths p_grades p_count o_thicks o_wides o_lengths o_grades o_count s_cameOn s_told u_ordersOfPiece u_usedOrders h_orderOfPiece h_heldOrders s_today s_cutOff s_agingOff K n (y1b + 1) m_gainsb) N y1a 0 m_gainsa))
def m_S_offerPairs (N : Nat) (p_thicks : Nat → Int32) (p_wides : Nat → Int32) (p_lengths : Nat → Int32) (p_grades : Nat → Int32) (p_count : Int32) (o_thicks : Nat → Int32) (o_wides : Nat → Int32) (o_lengths : Nat → Int32) (o_grades : Nat → Int32) (o_count : Int32) (s_cameOn : Nat → Int32) (s_told : Nat → Int32) (u_ordersOfPiece : Nat → Int32) (u_usedOrders : Int32) (h_orderOfPiece : Nat → Int32) (h_heldOrders : Int32) (m_gains : Nat → Int32) (s_today : Int32) (s_cutOff : Int32) (s_agingOff : Int32) : Option (Nat → Int32) :=
  ((m_M_clearOffers N m_gains).bind fun u2 =>
  L_S_offerPairs_9 N p_thicks p_wides p_lengths p_grades p_count o_thicks o_wides o_lengths o_grades o_count s_cameOn s_told u_ordersOfPiece u_usedOrders h_orderOfPiece h_heldOrders s_today s_cutOff s_agingOff (fun y1a m_gainsa =>
    some m_gainsa) N 0 u2)
set_option maxHeartbeats 4000000 in
set_option maxRecDepth 100000 in
theorem c_S_offerPairs (l : Launch) (dC : Nat → ClassId) (dI : Nat → Nat → Nat) (cI : ClassId) (sq pq pq1 pq2 pq3 pq4 oq oq1 oq2 oq3 oq4 sq3 sq4 uq uq1 hq hq1 hq2 mq mq1 mq2 mq3 mq4 mq5 : Nat) (sz : Nat) (p_thicks : Nat → Int32) (p_wides : Nat → Int32) (p_lengths : Nat → Int32) (p_grades : Nat → Int32) (p_count : Int32) (o_thicks : Nat → Int32) (o_wides : Nat → Int32) (o_lengths : Nat → Int32) (o_grades : Nat → Int32) (o_count : Int32) (s_cameOn : Nat → Int32) (s_told : Nat → Int32) (u_ordersOfPiece : Nat → Int32) (u_usedOrders : Int32) (h_orderOfPiece : Nat → Int32) (h_lastDay : Nat → Int32) (h_heldOrders : Int32) (m_gains : Nat → Int32) (m_best : Nat → Int32) (m_chosen : Nat → Int32) (m_pieceDuals : Nat → Int32) (m_orderDuals : Nat → Int32) (m_pieceCount : Int32) (m_orderCount : Int32) (m_pairs : Int32) (m_worthSum : Int32) (m_upToDate : Int32) (s_today : Int32) (s_cutOff : Int32) (s_agingOff : Int32) (s_saleAge : Int32)  (N : Nat) (res : (Nat → Int32)) (hm : m_S_offerPairs N p_thicks p_wides p_lengths p_grades p_count o_thicks o_wides o_lengths o_grades o_count s_cameOn s_told u_ordersOfPiece u_usedOrders h_orderOfPiece h_heldOrders m_gains s_today s_cutOff s_agingOff = some res) : Met l y_S_offerPairs w_S_offerPairs ({ frames := 3, cells := 0, slots := 0, locals := 65 } : Room) (va_Pc [.ref sq] (fun U => U.heap.size = sz ∧ va_P (dC, dI) classes [(sq, .inr (4, [.ref pq, .ref oq, .ref sq3, .ref sq4, .ref uq, .ref hq, .ref mq, .int s_today, .int s_cutOff, .int s_agingOff, .int s_saleAge])), (pq, .inr (0, [.ref pq1, .ref pq2, .ref pq3, .ref pq4, .int p_count])), (pq1, .inl (cI, 10, .inl p_thicks)), (pq2, .inl (cI, 10, .inl p_wides)), (pq3, .inl (cI, 10, .inl p_lengths)), (pq4, .inl (cI, 10, .inl p_grades)), (oq, .inr (0, [.ref oq1, .ref oq2, .ref oq3, .ref oq4, .int o_count])), (oq1, .inl (cI, 10, .inl o_thicks)), (oq2, .inl (cI, 10, .inl o_wides)), (oq3, .inl (cI, 10, .inl o_lengths)), (oq4, .inl (cI, 10, .inl o_grades)), (sq3, .inl (cI, 10, .inl s_cameOn)), (sq4, .inl (cI, 100, .inl s_told)), (uq, .inr (1, [.ref uq1, .int u_usedOrders])), (uq1, .inl (cI, 10, .inl u_ordersOfPiece)), (hq, .inr (2, [.ref hq1, .ref hq2, .int h_heldOrders])), (hq1, .inl (cI, 10, .inl h_orderOfPiece)), (hq2, .inl (cI, 10, .inl h_lastDay)), (mq, .inr (3, [.ref mq1, .ref mq2, .ref mq3, .ref mq4, .ref mq5, .int m_pieceCount, .int m_orderCount, .int m_pairs, .int m_worthSum, .int m_upToDate])), (mq1, .inl (cI, 100, .inl m_gains)), (mq2, .inl (cI, 11264, .inl m_best)), (mq3, .inl (cI, 10, .inl m_chosen)), (mq4, .inl (cI, 10, .inl m_pieceDuals)), (mq5, .inl (cI, 10, .inl m_orderDuals))] U.heap ∧ va_K (dC, dI) classes [(cI, .int)] U ∧ va_D (fun _ => True) [(sq, .inr (4, [.ref pq, .ref oq, .ref sq3, .ref sq4, .ref uq, .ref hq, .ref mq, .int s_today, .int s_cutOff, .int s_agingOff, .int s_saleAge])), (pq, .inr (0, [.ref pq1, .ref pq2, .ref pq3, .ref pq4, .int p_count])), (pq1, .inl (cI, 10, .inl p_thicks)), (pq2, .inl (cI, 10, .inl p_wides)), (pq3, .inl (cI, 10, .inl p_lengths)), (pq4, .inl (cI, 10, .inl p_grades)), (oq, .inr (0, [.ref oq1, .ref oq2, .ref oq3, .ref oq4, .int o_count])), (oq1, .inl (cI, 10, .inl o_thicks)), (oq2, .inl (cI, 10, .inl o_wides)), (oq3, .inl (cI, 10, .inl o_lengths)), (oq4, .inl (cI, 10, .inl o_grades)), (sq3, .inl (cI, 10, .inl s_cameOn)), (sq4, .inl (cI, 100, .inl s_told)), (uq, .inr (1, [.ref uq1, .int u_usedOrders])), (uq1, .inl (cI, 10, .inl u_ordersOfPiece)), (hq, .inr (2, [.ref hq1, .ref hq2, .int h_heldOrders])), (hq1, .inl (cI, 10, .inl h_orderOfPiece)), (hq2, .inl (cI, 10, .inl h_lastDay)), (mq, .inr (3, [.ref mq1, .ref mq2, .ref mq3, .ref mq4, .ref mq5, .int m_pieceCount, .int m_orderCount, .int m_pairs, .int m_worthSum, .int m_upToDate])), (mq1, .inl (cI, 100, .inl m_gains)), (mq2, .inl (cI, 11264, .inl m_best)), (mq3, .inl (cI, 10, .inl m_chosen)), (mq4, .inl (cI, 10, .inl m_pieceDuals)), (mq5, .inl (cI, 10, .inl m_orderDuals))] ∧ nw U)) (va_Qv (fun _ : Unit => True) (fun _ t => va_P (dC, dI) classes [(sq, .inr (4, [.ref pq, .ref oq, .ref sq3, .ref sq4, .ref uq, .ref hq, .ref mq, .int s_today, .int s_cutOff, .int s_agingOff, .int s_saleAge])), (pq, .inr (0, [.ref pq1, .ref pq2, .ref pq3, .ref pq4, .int p_count])), (pq1, .inl (cI, 10, .inl p_thicks)), (pq2, .inl (cI, 10, .inl p_wides)), (pq3, .inl (cI, 10, .inl p_lengths)), (pq4, .inl (cI, 10, .inl p_grades)), (oq, .inr (0, [.ref oq1, .ref oq2, .ref oq3, .ref oq4, .int o_count])), (oq1, .inl (cI, 10, .inl o_thicks)), (oq2, .inl (cI, 10, .inl o_wides)), (oq3, .inl (cI, 10, .inl o_lengths)), (oq4, .inl (cI, 10, .inl o_grades)), (sq3, .inl (cI, 10, .inl s_cameOn)), (sq4, .inl (cI, 100, .inl s_told)), (uq, .inr (1, [.ref uq1, .int u_usedOrders])), (uq1, .inl (cI, 10, .inl u_ordersOfPiece)), (hq, .inr (2, [.ref hq1, .ref hq2, .int h_heldOrders])), (hq1, .inl (cI, 10, .inl h_orderOfPiece)), (hq2, .inl (cI, 10, .inl h_lastDay)), (mq, .inr (3, [.ref mq1, .ref mq2, .ref mq3, .ref mq4, .ref mq5, .int m_pieceCount, .int m_orderCount, .int m_pairs, .int m_worthSum, .int m_upToDate])), (mq1, .inl (cI, 100, .inl res)), (mq2, .inl (cI, 11264, .inl m_best)), (mq3, .inl (cI, 10, .inl m_chosen)), (mq4, .inl (cI, 10, .inl m_pieceDuals)), (mq5, .inl (cI, 10, .inl m_orderDuals))] t.heap ∧ va_K (dC, dI) classes [(cI, .int)] t ∧ va_D (va_A [(sq, .inr (4, [.ref pq, .ref oq, .ref sq3, .ref sq4, .ref uq, .ref hq, .ref mq, .int s_today, .int s_cutOff, .int s_agingOff, .int s_saleAge])), (pq, .inr (0, [.ref pq1, .ref pq2, .ref pq3, .ref pq4, .int p_count])), (pq1, .inl (cI, 10, .inl p_thicks)), (pq2, .inl (cI, 10, .inl p_wides)), (pq3, .inl (cI, 10, .inl p_lengths)), (pq4, .inl (cI, 10, .inl p_grades)), (oq, .inr (0, [.ref oq1, .ref oq2, .ref oq3, .ref oq4, .int o_count])), (oq1, .inl (cI, 10, .inl o_thicks)), (oq2, .inl (cI, 10, .inl o_wides)), (oq3, .inl (cI, 10, .inl o_lengths)), (oq4, .inl (cI, 10, .inl o_grades)), (sq3, .inl (cI, 10, .inl s_cameOn)), (sq4, .inl (cI, 100, .inl s_told)), (uq, .inr (1, [.ref uq1, .int u_usedOrders])), (uq1, .inl (cI, 10, .inl u_ordersOfPiece)), (hq, .inr (2, [.ref hq1, .ref hq2, .int h_heldOrders])), (hq1, .inl (cI, 10, .inl h_orderOfPiece)), (hq2, .inl (cI, 10, .inl h_lastDay)), (mq, .inr (3, [.ref mq1, .ref mq2, .ref mq3, .ref mq4, .ref mq5, .int m_pieceCount, .int m_orderCount, .int m_pairs, .int m_worthSum, .int m_upToDate])), (mq1, .inl (cI, 100, .inl m_gains)), (mq2, .inl (cI, 11264, .inl m_best)), (mq3, .inl (cI, 10, .inl m_chosen)), (mq4, .inl (cI, 10, .inl m_pieceDuals)), (mq5, .inl (cI, 10, .inl m_orderDuals))] sz) [(sq, .inr (4, [.ref pq, .ref oq, .ref sq3, .ref sq4, .ref uq, .ref hq, .ref mq, .int s_today, .int s_cutOff, .int s_agingOff, .int s_saleAge])), (pq, .inr (0, [.ref pq1, .ref pq2, .ref pq3, .ref pq4, .int p_count])), (pq1, .inl (cI, 10, .inl p_thicks)), (pq2, .inl (cI, 10, .inl p_wides)), (pq3, .inl (cI, 10, .inl p_lengths)), (pq4, .inl (cI, 10, .inl p_grades)), (oq, .inr (0, [.ref oq1, .ref oq2, .ref oq3, .ref oq4, .int o_count])), (oq1, .inl (cI, 10, .inl o_thicks)), (oq2, .inl (cI, 10, .inl o_wides)), (oq3, .inl (cI, 10, .inl o_lengths)), (oq4, .inl (cI, 10, .inl o_grades)), (sq3, .inl (cI, 10, .inl s_cameOn)), (sq4, .inl (cI, 100, .inl s_told)), (uq, .inr (1, [.ref uq1, .int u_usedOrders])), (uq1, .inl (cI, 10, .inl u_ordersOfPiece)), (hq, .inr (2, [.ref hq1, .ref hq2, .int h_heldOrders])), (hq1, .inl (cI, 10, .inl h_orderOfPiece)), (hq2, .inl (cI, 10, .inl h_lastDay)), (mq, .inr (3, [.ref mq1, .ref mq2, .ref mq3, .ref mq4, .ref mq5, .int m_pieceCount, .int m_orderCount, .int m_pairs, .int m_worthSum, .int m_upToDate])), (mq1, .inl (cI, 100, .inl res)), (mq2, .inl (cI, 11264, .inl m_best)), (mq3, .inl (cI, 10, .inl m_chosen)), (mq4, .inl (cI, 10, .inl m_pieceDuals)), (mq5, .inl (cI, 10, .inl m_orderDuals))]) (va_A [(sq, .inr (4, [.ref pq, .ref oq, .ref sq3, .ref sq4, .ref uq, .ref hq, .ref mq, .int s_today, .int s_cutOff, .int s_agingOff, .int s_saleAge])), (pq, .inr (0, [.ref pq1, .ref pq2, .ref pq3, .ref pq4, .int p_count])), (pq1, .inl (cI, 10, .inl p_thicks)), (pq2, .inl (cI, 10, .inl p_wides)), (pq3, .inl (cI, 10, .inl p_lengths)), (pq4, .inl (cI, 10, .inl p_grades)), (oq, .inr (0, [.ref oq1, .ref oq2, .ref oq3, .ref oq4, .int o_count])), (oq1, .inl (cI, 10, .inl o_thicks)), (oq2, .inl (cI, 10, .inl o_wides)), (oq3, .inl (cI, 10, .inl o_lengths)), (oq4, .inl (cI, 10, .inl o_grades)), (sq3, .inl (cI, 10, .inl s_cameOn)), (sq4, .inl (cI, 100, .inl s_told)), (uq, .inr (1, [.ref uq1, .int u_usedOrders])), (uq1, .inl (cI, 10, .inl u_ordersOfPiece)), (hq, .inr (2, [.ref hq1, .ref hq2, .int h_heldOrders])), (hq1, .inl (cI, 10, .inl h_orderOfPiece)), (hq2, .inl (cI, 10, .inl h_lastDay)), (mq, .inr (3, [.ref mq1, .ref mq2, .ref mq3, .ref mq4, .ref mq5, .int m_pieceCount, .int m_orderCount, .int m_pairs, .int m_worthSum, .int m_upToDate])), (mq1, .inl (cI, 100, .inl m_gains)), (mq2, .inl (cI, 11264, .inl m_best)), (mq3, .inl (cI, 10, .inl m_chosen)), (mq4, .inl (cI, 10, .inl m_pieceDuals)), (mq5, .inl (cI, 10, .inl m_orderDuals))] sz)) 0 0 (va_A [(sq, .inr (4, [.ref pq, .ref oq, .ref sq3, .ref sq4, .ref uq, .ref hq, .ref mq, .int s_today, .int s_cutOff, .int s_agingOff, .int s_saleAge])), (pq, .inr (0, [.ref pq1, .ref pq2, .ref pq3, .ref pq4, .int p_count])), (pq1, .inl (cI, 10, .inl p_thicks)), (pq2, .inl (cI, 10, .inl p_wides)), (pq3, .inl (cI, 10, .inl p_lengths)), (pq4, .inl (cI, 10, .inl p_grades)), (oq, .inr (0, [.ref oq1, .ref oq2, .ref oq3, .ref oq4, .int o_count])), (oq1, .inl (cI, 10, .inl o_thicks)), (oq2, .inl (cI, 10, .inl o_wides)), (oq3, .inl (cI, 10, .inl o_lengths)), (oq4, .inl (cI, 10, .inl o_grades)), (sq3, .inl (cI, 10, .inl s_cameOn)), (sq4, .inl (cI, 100, .inl s_told)), (uq, .inr (1, [.ref uq1, .int u_usedOrders])), (uq1, .inl (cI, 10, .inl u_ordersOfPiece)), (hq, .inr (2, [.ref hq1, .ref hq2, .int h_heldOrders])), (hq1, .inl (cI, 10, .inl h_orderOfPiece)), (hq2, .inl (cI, 10, .inl h_lastDay)), (mq, .inr (3, [.ref mq1, .ref mq2, .ref mq3, .ref mq4, .ref mq5, .int m_pieceCount, .int m_orderCount, .int m_pairs, .int m_worthSum, .int m_upToDate])), (mq1, .inl (cI, 100, .inl m_gains)), (mq2, .inl (cI, 11264, .inl m_best)), (mq3, .inl (cI, 10, .inl m_chosen)), (mq4, .inl (cI, 10, .inl m_pieceDuals)), (mq5, .inl (cI, 10, .inl m_orderDuals))] sz) := by
  unfold m_S_offerPairs at hm
  refine Met.ofW (cc := b_S_offerPairs) (maxL := 3) (ret := none) (by decide) rfl ?_
  intro p e s m args below meth c s₁ B hml hv
  obtain ⟨rfl, hsz, hP, hK, hD0, hN⟩ := hv
  have hx := B.exec
  have hb := B.bytes
  have hr := B.returns
  have hts := atoms_spec (ws := w_S_offerPairs) B.pre
  have hown : s.vm.findClass R_S = some m.cls := findClass_of_methodNamed B.named
  have hlocks := B.notSynchronized
  subst hsz
  have hD := hD0.self (sz := s.heap.size)
  generalize hAe : va_A [(sq, .inr (4, [.ref pq, .ref oq, .ref sq3, .ref sq4, .ref uq, .ref hq, .ref mq, .int s_today, .int s_cutOff, .int s_agingOff, .int s_saleAge])), (pq, .inr (0, [.ref pq1, .ref pq2, .ref pq3, .ref pq4, .int p_count])), (pq1, .inl (cI, 10, .inl p_thicks)), (pq2, .inl (cI, 10, .inl p_wides)), (pq3, .inl (cI, 10, .inl p_lengths)), (pq4, .inl (cI, 10, .inl p_grades)), (oq, .inr (0, [.ref oq1, .ref oq2, .ref oq3, .ref oq4, .int o_count])), (oq1, .inl (cI, 10, .inl o_thicks)), (oq2, .inl (cI, 10, .inl o_wides)), (oq3, .inl (cI, 10, .inl o_lengths)), (oq4, .inl (cI, 10, .inl o_grades)), (sq3, .inl (cI, 10, .inl s_cameOn)), (sq4, .inl (cI, 100, .inl s_told)), (uq, .inr (1, [.ref uq1, .int u_usedOrders])), (uq1, .inl (cI, 10, .inl u_ordersOfPiece)), (hq, .inr (2, [.ref hq1, .ref hq2, .int h_heldOrders])), (hq1, .inl (cI, 10, .inl h_orderOfPiece)), (hq2, .inl (cI, 10, .inl h_lastDay)), (mq, .inr (3, [.ref mq1, .ref mq2, .ref mq3, .ref mq4, .ref mq5, .int m_pieceCount, .int m_orderCount, .int m_pairs, .int m_worthSum, .int m_upToDate])), (mq1, .inl (cI, 100, .inl m_gains)), (mq2, .inl (cI, 11264, .inl m_best)), (mq3, .inl (cI, 10, .inl m_chosen)), (mq4, .inl (cI, 10, .inl m_pieceDuals)), (mq5, .inl (cI, 10, .inl m_orderDuals))] s.heap.size = A at hD ⊢
  have hA : ∀ q : Nat, s.heap.size ≤ q → A q := fun q h => by rw [← hAe]; exact Or.inr h
  have hS : va_S A s.heap s.heap [] := va_S.rf
  have hk0 := hts (.fieldLink R_S 43 "SurplusMatch" "matching" "LSurplusMatch$Matching;") (List.mem_cons_of_mem _ (w0 147 rfl))
  have hk1 : ∀ w ∈ w_S, w ∈ w_S_offerPairs := fun w h => List.mem_cons_of_mem _ (i_S w h)
  have hk2 := hts (.fieldLink R_S 10 "SurplusMatch" "pieces" "LSurplusMatch$Boards;") (List.mem_cons_of_mem _ (w0 141 rfl))
  have hk3 := hts (.fieldLink R_S 16 "SurplusMatch" "orders" "LSurplusMatch$Boards;") (List.mem_cons_of_mem _ (w0 142 rfl))
  have hl := lv_entry ([.ref sq]) (n := 3) (Nat.le_of_ble_eq_true rfl)
  rw [lg_entry_eq]
  generalize (lg_sl ([.ref sq]) ++ List.replicate (3 - (lg_sl ([.ref sq])).length) Slot.unset).toArray = ls at hl ⊢
  have hl : lv_has ls 3 [(0, .ref sq)] := hl
  refine lv_aload_n hx hb d_S_offerPairs_0 rfl (lv_at hl 0 rfl) ?_
  refine va_get (D := (dC, dI)) (ci := 4) (v := .ref mq) (C := R_S) (T := F_S) (N := 11) hx hb hts hk1 hown hK hP 0 rfl rfl 6 (by decide) hk0 (fun _ h9 => h9) rfl d_S_offerPairs_1 ?_
  obtain ⟨u2, hc, hm⟩ := bd hm
  try dsimp only at hm
  have hPc := hP.sub (ws' := [(mq, .inr (3, [.ref mq1, .ref mq2, .ref mq3, .ref mq4, .ref mq5, .int m_pieceCount, .int m_orderCount, .int m_pairs, .int m_worthSum, .int m_upToDate])), (mq1, .inl (cI, 100, .inl m_gains)), (mq2, .inl (cI, 11264, .inl m_best)), (mq3, .inl (cI, 10, .inl m_chosen)), (mq4, .inl (cI, 10, .inl m_pieceDuals)), (mq5, .inl (cI, 10, .inl m_orderDuals))]) [18, 19, 20, 21, 22, 23] rfl
  have hDc := hD.sub (ws' := [(mq, .inr (3, [.ref mq1, .ref mq2, .ref mq3, .ref mq4, .ref mq5, .int m_pieceCount, .int m_orderCount, .int m_pairs, .int m_worthSum, .int m_upToDate])), (mq1, .inl (cI, 100, .inl m_gains)), (mq2, .inl (cI, 11264, .inl m_best)), (mq3, .inl (cI, 10, .inl m_chosen)), (mq4, .inl (cI, 10, .inl m_pieceDuals)), (mq5, .inl (cI, 10, .inl m_orderDuals))]) [18, 19, 20, 21, 22, 23] (by decide) rfl
  have hFc := va_free (wc := [(mq, .inr (3, [.ref mq1, .ref mq2, .ref mq3, .ref mq4, .ref mq5, .int m_pieceCount, .int m_orderCount, .int m_pairs, .int m_worthSum, .int m_upToDate])), (mq1, .inl (cI, 100, .inl m_gains)), (mq2, .inl (cI, 11264, .inl m_best)), (mq3, .inl (cI, 10, .inl m_chosen)), (mq4, .inl (cI, 10, .inl m_pieceDuals)), (mq5, .inl (cI, 10, .inl m_orderDuals))]) hD hS hA [18, 19, 20, 21, 22, 23] rfl
  refine va_callv (va_runV (As := []) (rest := []) ⟨hx, hb, hml, hown, hts⟩ (c_M_clearOffers l dC dI cI mq mq1 mq2 mq3 mq4 mq5 s.heap.size m_gains m_best m_chosen m_pieceDuals m_orderDuals m_pieceCount m_orderCount m_pairs m_worthSum m_upToDate  N u2 hc) (cwV 0 hts (gV (w0 182 rfl) (w0 183 rfl) (w0 184 rfl) (w0 32 rfl) (w0 185 rfl)) rfl rfl rfl q_M_clearOffers ⟨Nat.le_of_ble_eq_true rfl, Nat.le_of_ble_eq_true rfl⟩) (wr_preV hK hPc hDc hN 3 0 (R_M, F_M, 10) rfl rfl) rfl rfl hl.1 rfl (lv_room (Nat.le_of_ble_eq_true rfl)) d_S_offerPairs_4 ⟨Nat.le_of_ble_eq_true rfl, Nat.le_of_ble_eq_true rfl⟩) hS (fun q _ h => hFc q h) hFc (fun u t H1 locs ht hvm hw hB hz1 hk1 hS => ?_)
  obtain ⟨hP1, hK1, hD1⟩ := hB
  rw [ht] at hP1
  obtain ⟨hP, hD⟩ := va_join (wr := [(sq, .inr (4, [.ref pq, .ref oq, .ref sq3, .ref sq4, .ref uq, .ref hq, .ref mq, .int s_today, .int s_cutOff, .int s_agingOff, .int s_saleAge])), (pq, .inr (0, [.ref pq1, .ref pq2, .ref pq3, .ref pq4, .int p_count])), (pq1, .inl (cI, 10, .inl p_thicks)), (pq2, .inl (cI, 10, .inl p_wides)), (pq3, .inl (cI, 10, .inl p_lengths)), (pq4, .inl (cI, 10, .inl p_grades)), (oq, .inr (0, [.ref oq1, .ref oq2, .ref oq3, .ref oq4, .int o_count])), (oq1, .inl (cI, 10, .inl o_thicks)), (oq2, .inl (cI, 10, .inl o_wides)), (oq3, .inl (cI, 10, .inl o_lengths)), (oq4, .inl (cI, 10, .inl o_grades)), (sq3, .inl (cI, 10, .inl s_cameOn)), (sq4, .inl (cI, 100, .inl s_told)), (uq, .inr (1, [.ref uq1, .int u_usedOrders])), (uq1, .inl (cI, 10, .inl u_ordersOfPiece)), (hq, .inr (2, [.ref hq1, .ref hq2, .int h_heldOrders])), (hq1, .inl (cI, 10, .inl h_orderOfPiece)), (hq2, .inl (cI, 10, .inl h_lastDay))]) (w1 := [(mq, .inr (3, [.ref mq1, .ref mq2, .ref mq3, .ref mq4, .ref mq5, .int m_pieceCount, .int m_orderCount, .int m_pairs, .int m_worthSum, .int m_upToDate])), (mq1, .inl (cI, 100, .inl u2)), (mq2, .inl (cI, 11264, .inl m_best)), (mq3, .inl (cI, 10, .inl m_chosen)), (mq4, .inl (cI, 10, .inl m_pieceDuals)), (mq5, .inl (cI, 10, .inl m_orderDuals))]) hP hD [18, 19, 20, 21, 22, 23] [0, 1, 2, 3, 4, 5, 6, 7, 8, 9, 10, 11, 12, 13, 14, 15, 16, 17] rfl rfl (by decide) (by decide) hk1 hFc hP1 hD1
  generalize H1 = H at hP hS ⊢
  have hP : va_P (dC, dI) classes [(sq, .inr (4, [.ref pq, .ref oq, .ref sq3, .ref sq4, .ref uq, .ref hq, .ref mq, .int s_today, .int s_cutOff, .int s_agingOff, .int s_saleAge])), (pq, .inr (0, [.ref pq1, .ref pq2, .ref pq3, .ref pq4, .int p_count])), (pq1, .inl (cI, 10, .inl p_thicks)), (pq2, .inl (cI, 10, .inl p_wides)), (pq3, .inl (cI, 10, .inl p_lengths)), (pq4, .inl (cI, 10, .inl p_grades)), (oq, .inr (0, [.ref oq1, .ref oq2, .ref oq3, .ref oq4, .int o_count])), (oq1, .inl (cI, 10, .inl o_thicks)), (oq2, .inl (cI, 10, .inl o_wides)), (oq3, .inl (cI, 10, .inl o_lengths)), (oq4, .inl (cI, 10, .inl o_grades)), (sq3, .inl (cI, 10, .inl s_cameOn)), (sq4, .inl (cI, 100, .inl s_told)), (uq, .inr (1, [.ref uq1, .int u_usedOrders])), (uq1, .inl (cI, 10, .inl u_ordersOfPiece)), (hq, .inr (2, [.ref hq1, .ref hq2, .int h_heldOrders])), (hq1, .inl (cI, 10, .inl h_orderOfPiece)), (hq2, .inl (cI, 10, .inl h_lastDay)), (mq, .inr (3, [.ref mq1, .ref mq2, .ref mq3, .ref mq4, .ref mq5, .int m_pieceCount, .int m_orderCount, .int m_pairs, .int m_worthSum, .int m_upToDate])), (mq1, .inl (cI, 100, .inl u2)), (mq2, .inl (cI, 11264, .inl m_best)), (mq3, .inl (cI, 10, .inl m_chosen)), (mq4, .inl (cI, 10, .inl m_pieceDuals)), (mq5, .inl (cI, 10, .inl m_orderDuals))] H := hP
  have hD : va_D A [(sq, .inr (4, [.ref pq, .ref oq, .ref sq3, .ref sq4, .ref uq, .ref hq, .ref mq, .int s_today, .int s_cutOff, .int s_agingOff, .int s_saleAge])), (pq, .inr (0, [.ref pq1, .ref pq2, .ref pq3, .ref pq4, .int p_count])), (pq1, .inl (cI, 10, .inl p_thicks)), (pq2, .inl (cI, 10, .inl p_wides)), (pq3, .inl (cI, 10, .inl p_lengths)), (pq4, .inl (cI, 10, .inl p_grades)), (oq, .inr (0, [.ref oq1, .ref oq2, .ref oq3, .ref oq4, .int o_count])), (oq1, .inl (cI, 10, .inl o_thicks)), (oq2, .inl (cI, 10, .inl o_wides)), (oq3, .inl (cI, 10, .inl o_lengths)), (oq4, .inl (cI, 10, .inl o_grades)), (sq3, .inl (cI, 10, .inl s_cameOn)), (sq4, .inl (cI, 100, .inl s_told)), (uq, .inr (1, [.ref uq1, .int u_usedOrders])), (uq1, .inl (cI, 10, .inl u_ordersOfPiece)), (hq, .inr (2, [.ref hq1, .ref hq2, .int h_heldOrders])), (hq1, .inl (cI, 10, .inl h_orderOfPiece)), (hq2, .inl (cI, 10, .inl h_lastDay)), (mq, .inr (3, [.ref mq1, .ref mq2, .ref mq3, .ref mq4, .ref mq5, .int m_pieceCount, .int m_orderCount, .int m_pairs, .int m_worthSum, .int m_upToDate])), (mq1, .inl (cI, 100, .inl u2)), (mq2, .inl (cI, 11264, .inl m_best)), (mq3, .inl (cI, 10, .inl m_chosen)), (mq4, .inl (cI, 10, .inl m_pieceDuals)), (mq5, .inl (cI, 10, .inl m_orderDuals))] := hD
  clear hP1 hD1 hPc hDc hFc hk1 hz1
  refine lv_iconst (v := 0) hx hb d_S_offerPairs_7 (by decide) ?_
  refine lv_istore_n (lv' := [(1, .int 0), (0, .ref sq)]) hx hb d_S_offerPairs_8 rfl hl (by decide) rfl (fun ls hl => ?_)
  have key9 : ∀ (K : Int32 → (Nat → Int32) → Option (Nat → Int32)) (_ : ∀ (y1a : Int32) (m_gainsa : Nat → Int32) (H : Heap) (locs : List Loc) (ls : Array Slot), lv_has ls 3 [(0, .ref sq), (1, .int y1a)] → va_P (dC, dI) classes [(sq, .inr (4, [.ref pq, .ref oq, .ref sq3, .ref sq4, .ref uq, .ref hq, .ref mq, .int s_today, .int s_cutOff, .int s_agingOff, .int s_saleAge])), (pq, .inr (0, [.ref pq1, .ref pq2, .ref pq3, .ref pq4, .int p_count])), (pq1, .inl (cI, 10, .inl p_thicks)), (pq2, .inl (cI, 10, .inl p_wides)), (pq3, .inl (cI, 10, .inl p_lengths)), (pq4, .inl (cI, 10, .inl p_grades)), (oq, .inr (0, [.ref oq1, .ref oq2, .ref oq3, .ref oq4, .int o_count])), (oq1, .inl (cI, 10, .inl o_thicks)), (oq2, .inl (cI, 10, .inl o_wides)), (oq3, .inl (cI, 10, .inl o_lengths)), (oq4, .inl (cI, 10, .inl o_grades)), (sq3, .inl (cI, 10, .inl s_cameOn)), (sq4, .inl (cI, 100, .inl s_told)), (uq, .inr (1, [.ref uq1, .int u_usedOrders])), (uq1, .inl (cI, 10, .inl u_ordersOfPiece)), (hq, .inr (2, [.ref hq1, .ref hq2, .int h_heldOrders])), (hq1, .inl (cI, 10, .inl h_orderOfPiece)), (hq2, .inl (cI, 10, .inl h_lastDay)), (mq, .inr (3, [.ref mq1, .ref mq2, .ref mq3, .ref mq4, .ref mq5, .int m_pieceCount, .int m_orderCount, .int m_pairs, .int m_worthSum, .int m_upToDate])), (mq1, .inl (cI, 100, .inl m_gainsa)), (mq2, .inl (cI, 11264, .inl m_best)), (mq3, .inl (cI, 10, .inl m_chosen)), (mq4, .inl (cI, 10, .inl m_pieceDuals)), (mq5, .inl (cI, 10, .inl m_orderDuals))] H → va_D A [(sq, .inr (4, [.ref pq, .ref oq, .ref sq3, .ref sq4, .ref uq, .ref hq, .ref mq, .int s_today, .int s_cutOff, .int s_agingOff, .int s_saleAge])), (pq, .inr (0, [.ref pq1, .ref pq2, .ref pq3, .ref pq4, .int p_count])), (pq1, .inl (cI, 10, .inl p_thicks)), (pq2, .inl (cI, 10, .inl p_wides)), (pq3, .inl (cI, 10, .inl p_lengths)), (pq4, .inl (cI, 10, .inl p_grades)), (oq, .inr (0, [.ref oq1, .ref oq2, .ref oq3, .ref oq4, .int o_count])), (oq1, .inl (cI, 10, .inl o_thicks)), (oq2, .inl (cI, 10, .inl o_wides)), (oq3, .inl (cI, 10, .inl o_lengths)), (oq4, .inl (cI, 10, .inl o_grades)), (sq3, .inl (cI, 10, .inl s_cameOn)), (sq4, .inl (cI, 100, .inl s_told)), (uq, .inr (1, [.ref uq1, .int u_usedOrders])), (uq1, .inl (cI, 10, .inl u_ordersOfPiece)), (hq, .inr (2, [.ref hq1, .ref hq2, .int h_heldOrders])), (hq1, .inl (cI, 10, .inl h_orderOfPiece)), (hq2, .inl (cI, 10, .inl h_lastDay)), (mq, .inr (3, [.ref mq1, .ref mq2, .ref mq3, .ref mq4, .ref mq5, .int m_pieceCount, .int m_orderCount, .int m_pairs, .int m_worthSum, .int m_upToDate])), (mq1, .inl (cI, 100, .inl m_gainsa)), (mq2, .inl (cI, 11264, .inl m_best)), (mq3, .inl (cI, 10, .inl m_chosen)), (mq4, .inl (cI, 10, .inl m_pieceDuals)), (mq5, .inl (cI, 10, .inl m_orderDuals))] → va_S A s.heap H locs → K y1a m_gainsa = some res → W p l e (headSpec w_S_offerPairs ({ frames := 3, cells := 0, slots := 0, locals := 65 } : Room)).room s m ([.ref sq] : List Value).toArray below meth c H locs 0 0 (MQ below (va_Qv (fun _ : Unit => True) (fun _ t => va_P (dC, dI) classes [(sq, .inr (4, [.ref pq, .ref oq, .ref sq3, .ref sq4, .ref uq, .ref hq, .ref mq, .int s_today, .int s_cutOff, .int s_agingOff, .int s_saleAge])), (pq, .inr (0, [.ref pq1, .ref pq2, .ref pq3, .ref pq4, .int p_count])), (pq1, .inl (cI, 10, .inl p_thicks)), (pq2, .inl (cI, 10, .inl p_wides)), (pq3, .inl (cI, 10, .inl p_lengths)), (pq4, .inl (cI, 10, .inl p_grades)), (oq, .inr (0, [.ref oq1, .ref oq2, .ref oq3, .ref oq4, .int o_count])), (oq1, .inl (cI, 10, .inl o_thicks)), (oq2, .inl (cI, 10, .inl o_wides)), (oq3, .inl (cI, 10, .inl o_lengths)), (oq4, .inl (cI, 10, .inl o_grades)), (sq3, .inl (cI, 10, .inl s_cameOn)), (sq4, .inl (cI, 100, .inl s_told)), (uq, .inr (1, [.ref uq1, .int u_usedOrders])), (uq1, .inl (cI, 10, .inl u_ordersOfPiece)), (hq, .inr (2, [.ref hq1, .ref hq2, .int h_heldOrders])), (hq1, .inl (cI, 10, .inl h_orderOfPiece)), (hq2, .inl (cI, 10, .inl h_lastDay)), (mq, .inr (3, [.ref mq1, .ref mq2, .ref mq3, .ref mq4, .ref mq5, .int m_pieceCount, .int m_orderCount, .int m_pairs, .int m_worthSum, .int m_upToDate])), (mq1, .inl (cI, 100, .inl res)), (mq2, .inl (cI, 11264, .inl m_best)), (mq3, .inl (cI, 10, .inl m_chosen)), (mq4, .inl (cI, 10, .inl m_pieceDuals)), (mq5, .inl (cI, 10, .inl m_orderDuals))] t.heap ∧ va_K (dC, dI) classes [(cI, .int)] t ∧ va_D A [(sq, .inr (4, [.ref pq, .ref oq, .ref sq3, .ref sq4, .ref uq, .ref hq, .ref mq, .int s_today, .int s_cutOff, .int s_agingOff, .int s_saleAge])), (pq, .inr (0, [.ref pq1, .ref pq2, .ref pq3, .ref pq4, .int p_count])), (pq1, .inl (cI, 10, .inl p_thicks)), (pq2, .inl (cI, 10, .inl p_wides)), (pq3, .inl (cI, 10, .inl p_lengths)), (pq4, .inl (cI, 10, .inl p_grades)), (oq, .inr (0, [.ref oq1, .ref oq2, .ref oq3, .ref oq4, .int o_count])), (oq1, .inl (cI, 10, .inl o_thicks)), (oq2, .inl (cI, 10, .inl o_wides)), (oq3, .inl (cI, 10, .inl o_lengths)), (oq4, .inl (cI, 10, .inl o_grades)), (sq3, .inl (cI, 10, .inl s_cameOn)), (sq4, .inl (cI, 100, .inl s_told)), (uq, .inr (1, [.ref uq1, .int u_usedOrders])), (uq1, .inl (cI, 10, .inl u_ordersOfPiece)), (hq, .inr (2, [.ref hq1, .ref hq2, .int h_heldOrders])), (hq1, .inl (cI, 10, .inl h_orderOfPiece)), (hq2, .inl (cI, 10, .inl h_lastDay)), (mq, .inr (3, [.ref mq1, .ref mq2, .ref mq3, .ref mq4, .ref mq5, .int m_pieceCount, .int m_orderCount, .int m_pairs, .int m_worthSum, .int m_upToDate])), (mq1, .inl (cI, 100, .inl res)), (mq2, .inl (cI, 11264, .inl m_best)), (mq3, .inl (cI, 10, .inl m_chosen)), (mq4, .inl (cI, 10, .inl m_pieceDuals)), (mq5, .inl (cI, 10, .inl m_orderDuals))]) A) ([.ref sq] : List Value).toArray s 0 0 A) (F0 m 69 ls [])) (n : Nat) (y1a : Int32) (m_gainsa : Nat → Int32) (H : Heap) (locs : List Loc) (ls : Array Slot), lv_has ls 3 [(0, .ref sq), (1, .int y1a)] → va_P (dC, dI) classes [(sq, .inr (4, [.ref pq, .ref oq, .ref sq3, .ref sq4, .ref uq, .ref hq, .ref mq, .int s_today, .int s_cutOff, .int s_agingOff, .int s_saleAge])), (pq, .inr (0, [.ref pq1, .ref pq2, .ref pq3, .ref pq4, .int p_count])), (pq1, .inl (cI, 10, .inl p_thicks)), (pq2, .inl (cI, 10, .inl p_wides)), (pq3, .inl (cI, 10, .inl p_lengths)), (pq4, .inl (cI, 10, .inl p_grades)), (oq, .inr (0, [.ref oq1, .ref oq2, .ref oq3, .ref oq4, .int o_count])), (oq1, .inl (cI, 10, .inl o_thicks)), (oq2, .inl (cI, 10, .inl o_wides)), (oq3, .inl (cI, 10, .inl o_lengths)), (oq4, .inl (cI, 10, .inl o_grades)), (sq3, .inl (cI, 10, .inl s_cameOn)), (sq4, .inl (cI, 100, .inl s_told)), (uq, .inr (1, [.ref uq1, .int u_usedOrders])), (uq1, .inl (cI, 10, .inl u_ordersOfPiece)), (hq, .inr (2, [.ref hq1, .ref hq2, .int h_heldOrders])), (hq1, .inl (cI, 10, .inl h_orderOfPiece)), (hq2, .inl (cI, 10, .inl h_lastDay)), (mq, .inr (3, [.ref mq1, .ref mq2, .ref mq3, .ref mq4, .ref mq5, .int m_pieceCount, .int m_orderCount, .int m_pairs, .int m_worthSum, .int m_upToDate])), (mq1, .inl (cI, 100, .inl m_gainsa)), (mq2, .inl (cI, 11264, .inl m_best)), (mq3, .inl (cI, 10, .inl m_chosen)), (mq4, .inl (cI, 10, .inl m_pieceDuals)), (mq5, .inl (cI, 10, .inl m_orderDuals))] H → va_D A [(sq, .inr (4, [.ref pq, .ref oq, .ref sq3, .ref sq4, .ref uq, .ref hq, .ref mq, .int s_today, .int s_cutOff, .int s_agingOff, .int s_saleAge])), (pq, .inr (0, [.ref pq1, .ref pq2, .ref pq3, .ref pq4, .int p_count])), (pq1, .inl (cI, 10, .inl p_thicks)), (pq2, .inl (cI, 10, .inl p_wides)), (pq3, .inl (cI, 10, .inl p_lengths)), (pq4, .inl (cI, 10, .inl p_grades)), (oq, .inr (0, [.ref oq1, .ref oq2, .ref oq3, .ref oq4, .int o_count])), (oq1, .inl (cI, 10, .inl o_thicks)), (oq2, .inl (cI, 10, .inl o_wides)), (oq3, .inl (cI, 10, .inl o_lengths)), (oq4, .inl (cI, 10, .inl o_grades)), (sq3, .inl (cI, 10, .inl s_cameOn)), (sq4, .inl (cI, 100, .inl s_told)), (uq, .inr (1, [.ref uq1, .int u_usedOrders])), (uq1, .inl (cI, 10, .inl u_ordersOfPiece)), (hq, .inr (2, [.ref hq1, .ref hq2, .int h_heldOrders])), (hq1, .inl (cI, 10, .inl h_orderOfPiece)), (hq2, .inl (cI, 10, .inl h_lastDay)), (mq, .inr (3, [.ref mq1, .ref mq2, .ref mq3, .ref mq4, .ref mq5, .int m_pieceCount, .int m_orderCount, .int m_pairs, .int m_worthSum, .int m_upToDate])), (mq1, .inl (cI, 100, .inl m_gainsa)), (mq2, .inl (cI, 11264, .inl m_best)), (mq3, .inl (cI, 10, .inl m_chosen)), (mq4, .inl (cI, 10, .inl m_pieceDuals)), (mq5, .inl (cI, 10, .inl m_orderDuals))] → va_S A s.heap H locs → L_S_offerPairs_9 N p_thicks p_wides p_lengths p_grades p_count o_thicks o_wides o_lengths o_grades o_count s_cameOn s_told u_ordersOfPiece u_usedOrders h_orderOfPiece h_heldOrders s_today s_cutOff s_agingOff K n y1a m_gainsa = some res → W p l e (headSpec w_S_offerPairs ({ frames := 3, cells := 0, slots := 0, locals := 65 } : Room)).room s m ([.ref sq] : List Value).toArray below meth c H locs 0 0 (MQ below (va_Qv (fun _ : Unit => True) (fun _ t => va_P (dC, dI) classes [(sq, .inr (4, [.ref pq, .ref oq, .ref sq3, .ref sq4, .ref uq, .ref hq, .ref mq, .int s_today, .int s_cutOff, .int s_agingOff, .int s_saleAge])), (pq, .inr (0, [.ref pq1, .ref pq2, .ref pq3, .ref pq4, .int p_count])), (pq1, .inl (cI, 10, .inl p_thicks)), (pq2, .inl (cI, 10, .inl p_wides)), (pq3, .inl (cI, 10, .inl p_lengths)), (pq4, .inl (cI, 10, .inl p_grades)), (oq, .inr (0, [.ref oq1, .ref oq2, .ref oq3, .ref oq4, .int o_count])), (oq1, .inl (cI, 10, .inl o_thicks)), (oq2, .inl (cI, 10, .inl o_wides)), (oq3, .inl (cI, 10, .inl o_lengths)), (oq4, .inl (cI, 10, .inl o_grades)), (sq3, .inl (cI, 10, .inl s_cameOn)), (sq4, .inl (cI, 100, .inl s_told)), (uq, .inr (1, [.ref uq1, .int u_usedOrders])), (uq1, .inl (cI, 10, .inl u_ordersOfPiece)), (hq, .inr (2, [.ref hq1, .ref hq2, .int h_heldOrders])), (hq1, .inl (cI, 10, .inl h_orderOfPiece)), (hq2, .inl (cI, 10, .inl h_lastDay)), (mq, .inr (3, [.ref mq1, .ref mq2, .ref mq3, .ref mq4, .ref mq5, .int m_pieceCount, .int m_orderCount, .int m_pairs, .int m_worthSum, .int m_upToDate])), (mq1, .inl (cI, 100, .inl res)), (mq2, .inl (cI, 11264, .inl m_best)), (mq3, .inl (cI, 10, .inl m_chosen)), (mq4, .inl (cI, 10, .inl m_pieceDuals)), (mq5, .inl (cI, 10, .inl m_orderDuals))] t.heap ∧ va_K (dC, dI) classes [(cI, .int)] t ∧ va_D A [(sq, .inr (4, [.ref pq, .ref oq, .ref sq3, .ref sq4, .ref uq, .ref hq, .ref mq, .int s_today, .int s_cutOff, .int s_agingOff, .int s_saleAge])), (pq, .inr (0, [.ref pq1, .ref pq2, .ref pq3, .ref pq4, .int p_count])), (pq1, .inl (cI, 10, .inl p_thicks)), (pq2, .inl (cI, 10, .inl p_wides)), (pq3, .inl (cI, 10, .inl p_lengths)), (pq4, .inl (cI, 10, .inl p_grades)), (oq, .inr (0, [.ref oq1, .ref oq2, .ref oq3, .ref oq4, .int o_count])), (oq1, .inl (cI, 10, .inl o_thicks)), (oq2, .inl (cI, 10, .inl o_wides)), (oq3, .inl (cI, 10, .inl o_lengths)), (oq4, .inl (cI, 10, .inl o_grades)), (sq3, .inl (cI, 10, .inl s_cameOn)), (sq4, .inl (cI, 100, .inl s_told)), (uq, .inr (1, [.ref uq1, .int u_usedOrders])), (uq1, .inl (cI, 10, .inl u_ordersOfPiece)), (hq, .inr (2, [.ref hq1, .ref hq2, .int h_heldOrders])), (hq1, .inl (cI, 10, .inl h_orderOfPiece)), (hq2, .inl (cI, 10, .inl h_lastDay)), (mq, .inr (3, [.ref mq1, .ref mq2, .ref mq3, .ref mq4, .ref mq5, .int m_pieceCount, .int m_orderCount, .int m_pairs, .int m_worthSum, .int m_upToDate])), (mq1, .inl (cI, 100, .inl res)), (mq2, .inl (cI, 11264, .inl m_best)), (mq3, .inl (cI, 10, .inl m_chosen)), (mq4, .inl (cI, 10, .inl m_pieceDuals)), (mq5, .inl (cI, 10, .inl m_orderDuals))]) A) ([.ref sq] : List Value).toArray s 0 0 A) (F0 m 9 ls []) := by
    intro K hK9 n
    induction n with
    | zero => intro y1a m_gainsa H locs ls hl hP hD hS hm; exact absurd hm (by simp [L_S_offerPairs_9])
    | succ n ih9 =>
      intro y1a m_gainsa H locs ls hl hP hD hS hm
      rw [L_S_offerPairs_9] at hm
      refine lv_iload_n hx hb d_S_offerPairs_9 rfl (lv_at hl 1 rfl) ?_
      refine lv_aload_n hx hb d_S_offerPairs_10 rfl (lv_at hl 0 rfl) ?_
      refine va_get (D := (dC, dI)) (ci := 4) (v := .ref pq) (C := R_S) (T := F_S) (N := 11) hx hb hts hk1 hown hK hP 0 rfl rfl 0 (by decide) hk2 (fun _ h9 => h9) rfl d_S_offerPairs_11 ?_
      obtain ⟨r3, hc, hm⟩ := bd hm
      try dsimp only at hm
      refine vp_callSi (W.runV (As := []) (rest := [.int y1a]) ⟨hx, hb, hml, hown, hts⟩ (c_B_size l dC dI cI pq pq1 pq2 pq3 pq4 p_thicks p_wides p_lengths p_grades p_count  N r3 hc) (cwV 0 hts (gV (w0 186 rfl) (w0 187 rfl) (w0 188 rfl) (w0 29 rfl) (w0 189 rfl)) rfl rfl rfl q_B_size ⟨Nat.le_of_ble_eq_true rfl, Nat.le_of_ble_eq_true rfl⟩) (ro_preV [1, 2, 3, 4, 5] rfl hK hP hN 0 0 (R_B, F_B, 5) rfl rfl) rfl rfl hl.1 rfl (lv_room (Nat.le_of_ble_eq_true rfl)) d_S_offerPairs_14 ⟨Nat.le_of_ble_eq_true rfl, Nat.le_of_ble_eq_true rfl⟩) (fun r9 hr9 => ?_)
      subst hr9
      refine lv_icmp_ge (tgt := 69) hx hb d_S_offerPairs_17 (by decide) (fun c9 => ?_) (fun c9 => ?_)
      · replace hm := if_t c9 hm
        have hl : lv_has ls 3 [(0, .ref sq), (1, .int y1a)] := lv_sub hl [0, 1] rfl
        exact hK9 y1a m_gainsa _ _ ls hl hP hD hS hm
      · replace hm := if_f c9 hm
        refine lv_iconst (v := 0) hx hb d_S_offerPairs_20 (by decide) ?_
        refine lv_istore_n (lv' := [(2, .int 0), (0, .ref sq), (1, .int y1a)]) hx hb d_S_offerPairs_21 rfl hl (by decide) rfl (fun ls hl => ?_)
        have key22 : ∀ (K : Int32 → Int32 → (Nat → Int32) → Option (Nat → Int32)) (_ : ∀ (y1b : Int32) (y2b : Int32) (m_gainsb : Nat → Int32) (H : Heap) (locs : List Loc) (ls : Array Slot), lv_has ls 3 [(0, .ref sq), (1, .int y1b), (2, .int y2b)] → va_P (dC, dI) classes [(sq, .inr (4, [.ref pq, .ref oq, .ref sq3, .ref sq4, .ref uq, .ref hq, .ref mq, .int s_today, .int s_cutOff, .int s_agingOff, .int s_saleAge])), (pq, .inr (0, [.ref pq1, .ref pq2, .ref pq3, .ref pq4, .int p_count])), (pq1, .inl (cI, 10, .inl p_thicks)), (pq2, .inl (cI, 10, .inl p_wides)), (pq3, .inl (cI, 10, .inl p_lengths)), (pq4, .inl (cI, 10, .inl p_grades)), (oq, .inr (0, [.ref oq1, .ref oq2, .ref oq3, .ref oq4, .int o_count])), (oq1, .inl (cI, 10, .inl o_thicks)), (oq2, .inl (cI, 10, .inl o_wides)), (oq3, .inl (cI, 10, .inl o_lengths)), (oq4, .inl (cI, 10, .inl o_grades)), (sq3, .inl (cI, 10, .inl s_cameOn)), (sq4, .inl (cI, 100, .inl s_told)), (uq, .inr (1, [.ref uq1, .int u_usedOrders])), (uq1, .inl (cI, 10, .inl u_ordersOfPiece)), (hq, .inr (2, [.ref hq1, .ref hq2, .int h_heldOrders])), (hq1, .inl (cI, 10, .inl h_orderOfPiece)), (hq2, .inl (cI, 10, .inl h_lastDay)), (mq, .inr (3, [.ref mq1, .ref mq2, .ref mq3, .ref mq4, .ref mq5, .int m_pieceCount, .int m_orderCount, .int m_pairs, .int m_worthSum, .int m_upToDate])), (mq1, .inl (cI, 100, .inl m_gainsb)), (mq2, .inl (cI, 11264, .inl m_best)), (mq3, .inl (cI, 10, .inl m_chosen)), (mq4, .inl (cI, 10, .inl m_pieceDuals)), (mq5, .inl (cI, 10, .inl m_orderDuals))] H → va_D A [(sq, .inr (4, [.ref pq, .ref oq, .ref sq3, .ref sq4, .ref uq, .ref hq, .ref mq, .int s_today, .int s_cutOff, .int s_agingOff, .int s_saleAge])), (pq, .inr (0, [.ref pq1, .ref pq2, .ref pq3, .ref pq4, .int p_count])), (pq1, .inl (cI, 10, .inl p_thicks)), (pq2, .inl (cI, 10, .inl p_wides)), (pq3, .inl (cI, 10, .inl p_lengths)), (pq4, .inl (cI, 10, .inl p_grades)), (oq, .inr (0, [.ref oq1, .ref oq2, .ref oq3, .ref oq4, .int o_count])), (oq1, .inl (cI, 10, .inl o_thicks)), (oq2, .inl (cI, 10, .inl o_wides)), (oq3, .inl (cI, 10, .inl o_lengths)), (oq4, .inl (cI, 10, .inl o_grades)), (sq3, .inl (cI, 10, .inl s_cameOn)), (sq4, .inl (cI, 100, .inl s_told)), (uq, .inr (1, [.ref uq1, .int u_usedOrders])), (uq1, .inl (cI, 10, .inl u_ordersOfPiece)), (hq, .inr (2, [.ref hq1, .ref hq2, .int h_heldOrders])), (hq1, .inl (cI, 10, .inl h_orderOfPiece)), (hq2, .inl (cI, 10, .inl h_lastDay)), (mq, .inr (3, [.ref mq1, .ref mq2, .ref mq3, .ref mq4, .ref mq5, .int m_pieceCount, .int m_orderCount, .int m_pairs, .int m_worthSum, .int m_upToDate])), (mq1, .inl (cI, 100, .inl m_gainsb)), (mq2, .inl (cI, 11264, .inl m_best)), (mq3, .inl (cI, 10, .inl m_chosen)), (mq4, .inl (cI, 10, .inl m_pieceDuals)), (mq5, .inl (cI, 10, .inl m_orderDuals))] → va_S A s.heap H locs → K y1b y2b m_gainsb = some res → W p l e (headSpec w_S_offerPairs ({ frames := 3, cells := 0, slots := 0, locals := 65 } : Room)).room s m ([.ref sq] : List Value).toArray below meth c H locs 0 0 (MQ below (va_Qv (fun _ : Unit => True) (fun _ t => va_P (dC, dI) classes [(sq, .inr (4, [.ref pq, .ref oq, .ref sq3, .ref sq4, .ref uq, .ref hq, .ref mq, .int s_today, .int s_cutOff, .int s_agingOff, .int s_saleAge])), (pq, .inr (0, [.ref pq1, .ref pq2, .ref pq3, .ref pq4, .int p_count])), (pq1, .inl (cI, 10, .inl p_thicks)), (pq2, .inl (cI, 10, .inl p_wides)), (pq3, .inl (cI, 10, .inl p_lengths)), (pq4, .inl (cI, 10, .inl p_grades)), (oq, .inr (0, [.ref oq1, .ref oq2, .ref oq3, .ref oq4, .int o_count])), (oq1, .inl (cI, 10, .inl o_thicks)), (oq2, .inl (cI, 10, .inl o_wides)), (oq3, .inl (cI, 10, .inl o_lengths)), (oq4, .inl (cI, 10, .inl o_grades)), (sq3, .inl (cI, 10, .inl s_cameOn)), (sq4, .inl (cI, 100, .inl s_told)), (uq, .inr (1, [.ref uq1, .int u_usedOrders])), (uq1, .inl (cI, 10, .inl u_ordersOfPiece)), (hq, .inr (2, [.ref hq1, .ref hq2, .int h_heldOrders])), (hq1, .inl (cI, 10, .inl h_orderOfPiece)), (hq2, .inl (cI, 10, .inl h_lastDay)), (mq, .inr (3, [.ref mq1, .ref mq2, .ref mq3, .ref mq4, .ref mq5, .int m_pieceCount, .int m_orderCount, .int m_pairs, .int m_worthSum, .int m_upToDate])), (mq1, .inl (cI, 100, .inl res)), (mq2, .inl (cI, 11264, .inl m_best)), (mq3, .inl (cI, 10, .inl m_chosen)), (mq4, .inl (cI, 10, .inl m_pieceDuals)), (mq5, .inl (cI, 10, .inl m_orderDuals))] t.heap ∧ va_K (dC, dI) classes [(cI, .int)] t ∧ va_D A [(sq, .inr (4, [.ref pq, .ref oq, .ref sq3, .ref sq4, .ref uq, .ref hq, .ref mq, .int s_today, .int s_cutOff, .int s_agingOff, .int s_saleAge])), (pq, .inr (0, [.ref pq1, .ref pq2, .ref pq3, .ref pq4, .int p_count])), (pq1, .inl (cI, 10, .inl p_thicks)), (pq2, .inl (cI, 10, .inl p_wides)), (pq3, .inl (cI, 10, .inl p_lengths)), (pq4, .inl (cI, 10, .inl p_grades)), (oq, .inr (0, [.ref oq1, .ref oq2, .ref oq3, .ref oq4, .int o_count])), (oq1, .inl (cI, 10, .inl o_thicks)), (oq2, .inl (cI, 10, .inl o_wides)), (oq3, .inl (cI, 10, .inl o_lengths)), (oq4, .inl (cI, 10, .inl o_grades)), (sq3, .inl (cI, 10, .inl s_cameOn)), (sq4, .inl (cI, 100, .inl s_told)), (uq, .inr (1, [.ref uq1, .int u_usedOrders])), (uq1, .inl (cI, 10, .inl u_ordersOfPiece)), (hq, .inr (2, [.ref hq1, .ref hq2, .int h_heldOrders])), (hq1, .inl (cI, 10, .inl h_orderOfPiece)), (hq2, .inl (cI, 10, .inl h_lastDay)), (mq, .inr (3, [.ref mq1, .ref mq2, .ref mq3, .ref mq4, .ref mq5, .int m_pieceCount, .int m_orderCount, .int m_pairs, .int m_worthSum, .int m_upToDate])), (mq1, .inl (cI, 100, .inl res)), (mq2, .inl (cI, 11264, .inl m_best)), (mq3, .inl (cI, 10, .inl m_chosen)), (mq4, .inl (cI, 10, .inl m_pieceDuals)), (mq5, .inl (cI, 10, .inl m_orderDuals))]) A) ([.ref sq] : List Value).toArray s 0 0 A) (F0 m 63 ls [])) (n : Nat) (y1b : Int32) (y2b : Int32) (m_gainsb : Nat → Int32) (H : Heap) (locs : List Loc) (ls : Array Slot), lv_has ls 3 [(0, .ref sq), (1, .int y1b), (2, .int y2b)] → va_P (dC, dI) classes [(sq, .inr (4, [.ref pq, .ref oq, .ref sq3, .ref sq4, .ref uq, .ref hq, .ref mq, .int s_today, .int s_cutOff, .int s_agingOff, .int s_saleAge])), (pq, .inr (0, [.ref pq1, .ref pq2, .ref pq3, .ref pq4, .int p_count])), (pq1, .inl (cI, 10, .inl p_thicks)), (pq2, .inl (cI, 10, .inl p_wides)), (pq3, .inl (cI, 10, .inl p_lengths)), (pq4, .inl (cI, 10, .inl p_grades)), (oq, .inr (0, [.ref oq1, .ref oq2, .ref oq3, .ref oq4, .int o_count])), (oq1, .inl (cI, 10, .inl o_thicks)), (oq2, .inl (cI, 10, .inl o_wides)), (oq3, .inl (cI, 10, .inl o_lengths)), (oq4, .inl (cI, 10, .inl o_grades)), (sq3, .inl (cI, 10, .inl s_cameOn)), (sq4, .inl (cI, 100, .inl s_told)), (uq, .inr (1, [.ref uq1, .int u_usedOrders])), (uq1, .inl (cI, 10, .inl u_ordersOfPiece)), (hq, .inr (2, [.ref hq1, .ref hq2, .int h_heldOrders])), (hq1, .inl (cI, 10, .inl h_orderOfPiece)), (hq2, .inl (cI, 10, .inl h_lastDay)), (mq, .inr (3, [.ref mq1, .ref mq2, .ref mq3, .ref mq4, .ref mq5, .int m_pieceCount, .int m_orderCount, .int m_pairs, .int m_worthSum, .int m_upToDate])), (mq1, .inl (cI, 100, .inl m_gainsb)), (mq2, .inl (cI, 11264, .inl m_best)), (mq3, .inl (cI, 10, .inl m_chosen)), (mq4, .inl (cI, 10, .inl m_pieceDuals)), (mq5, .inl (cI, 10, .inl m_orderDuals))] H → va_D A [(sq, .inr (4, [.ref pq, .ref oq, .ref sq3, .ref sq4, .ref uq, .ref hq, .ref mq, .int s_today, .int s_cutOff, .int s_agingOff, .int s_saleAge])), (pq, .inr (0, [.ref pq1, .ref pq2, .ref pq3, .ref pq4, .int p_count])), (pq1, .inl (cI, 10, .inl p_thicks)), (pq2, .inl (cI, 10, .inl p_wides)), (pq3, .inl (cI, 10, .inl p_lengths)), (pq4, .inl (cI, 10, .inl p_grades)), (oq, .inr (0, [.ref oq1, .ref oq2, .ref oq3, .ref oq4, .int o_count])), (oq1, .inl (cI, 10, .inl o_thicks)), (oq2, .inl (cI, 10, .inl o_wides)), (oq3, .inl (cI, 10, .inl o_lengths)), (oq4, .inl (cI, 10, .inl o_grades)), (sq3, .inl (cI, 10, .inl s_cameOn)), (sq4, .inl (cI, 100, .inl s_told)), (uq, .inr (1, [.ref uq1, .int u_usedOrders])), (uq1, .inl (cI, 10, .inl u_ordersOfPiece)), (hq, .inr (2, [.ref hq1, .ref hq2, .int h_heldOrders])), (hq1, .inl (cI, 10, .inl h_orderOfPiece)), (hq2, .inl (cI, 10, .inl h_lastDay)), (mq, .inr (3, [.ref mq1, .ref mq2, .ref mq3, .ref mq4, .ref mq5, .int m_pieceCount, .int m_orderCount, .int m_pairs, .int m_worthSum, .int m_upToDate])), (mq1, .inl (cI, 100, .inl m_gainsb)), (mq2, .inl (cI, 11264, .inl m_best)), (mq3, .inl (cI, 10, .inl m_chosen)), (mq4, .inl (cI, 10, .inl m_pieceDuals)), (mq5, .inl (cI, 10, .inl m_orderDuals))] → va_S A s.heap H locs → L_S_offerPairs_22 N p_thicks p_wides p_lengths p_grades o_thicks o_wides o_lengths o_grades o_count s_cameOn s_told u_ordersOfPiece u_usedOrders h_orderOfPiece h_heldOrders s_today s_cutOff s_agingOff K n y1b y2b m_gainsb = some res → W p l e (headSpec w_S_offerPairs ({ frames := 3, cells := 0, slots := 0, locals := 65 } : Room)).room s m ([.ref sq] : List Value).toArray below meth c H locs 0 0 (MQ below (va_Qv (fun _ : Unit => True) (fun _ t => va_P (dC, dI) classes [(sq, .inr (4, [.ref pq, .ref oq, .ref sq3, .ref sq4, .ref uq, .ref hq, .ref mq, .int s_today, .int s_cutOff, .int s_agingOff, .int s_saleAge])), (pq, .inr (0, [.ref pq1, .ref pq2, .ref pq3, .ref pq4, .int p_count])), (pq1, .inl (cI, 10, .inl p_thicks)), (pq2, .inl (cI, 10, .inl p_wides)), (pq3, .inl (cI, 10, .inl p_lengths)), (pq4, .inl (cI, 10, .inl p_grades)), (oq, .inr (0, [.ref oq1, .ref oq2, .ref oq3, .ref oq4, .int o_count])), (oq1, .inl (cI, 10, .inl o_thicks)), (oq2, .inl (cI, 10, .inl o_wides)), (oq3, .inl (cI, 10, .inl o_lengths)), (oq4, .inl (cI, 10, .inl o_grades)), (sq3, .inl (cI, 10, .inl s_cameOn)), (sq4, .inl (cI, 100, .inl s_told)), (uq, .inr (1, [.ref uq1, .int u_usedOrders])), (uq1, .inl (cI, 10, .inl u_ordersOfPiece)), (hq, .inr (2, [.ref hq1, .ref hq2, .int h_heldOrders])), (hq1, .inl (cI, 10, .inl h_orderOfPiece)), (hq2, .inl (cI, 10, .inl h_lastDay)), (mq, .inr (3, [.ref mq1, .ref mq2, .ref mq3, .ref mq4, .ref mq5, .int m_pieceCount, .int m_orderCount, .int m_pairs, .int m_worthSum, .int m_upToDate])), (mq1, .inl (cI, 100, .inl res)), (mq2, .inl (cI, 11264, .inl m_best)), (mq3, .inl (cI, 10, .inl m_chosen)), (mq4, .inl (cI, 10, .inl m_pieceDuals)), (mq5, .inl (cI, 10, .inl m_orderDuals))] t.heap ∧ va_K (dC, dI) classes [(cI, .int)] t ∧ va_D A [(sq, .inr (4, [.ref pq, .ref oq, .ref sq3, .ref sq4, .ref uq, .ref hq, .ref mq, .int s_today, .int s_cutOff, .int s_agingOff, .int s_saleAge])), (pq, .inr (0, [.ref pq1, .ref pq2, .ref pq3, .ref pq4, .int p_count])), (pq1, .inl (cI, 10, .inl p_thicks)), (pq2, .inl (cI, 10, .inl p_wides)), (pq3, .inl (cI, 10, .inl p_lengths)), (pq4, .inl (cI, 10, .inl p_grades)), (oq, .inr (0, [.ref oq1, .ref oq2, .ref oq3, .ref oq4, .int o_count])), (oq1, .inl (cI, 10, .inl o_thicks)), (oq2, .inl (cI, 10, .inl o_wides)), (oq3, .inl (cI, 10, .inl o_lengths)), (oq4, .inl (cI, 10, .inl o_grades)), (sq3, .inl (cI, 10, .inl s_cameOn)), (sq4, .inl (cI, 100, .inl s_told)), (uq, .inr (1, [.ref uq1, .int u_usedOrders])), (uq1, .inl (cI, 10, .inl u_ordersOfPiece)), (hq, .inr (2, [.ref hq1, .ref hq2, .int h_heldOrders])), (hq1, .inl (cI, 10, .inl h_orderOfPiece)), (hq2, .inl (cI, 10, .inl h_lastDay)), (mq, .inr (3, [.ref mq1, .ref mq2, .ref mq3, .ref mq4, .ref mq5, .int m_pieceCount, .int m_orderCount, .int m_pairs, .int m_worthSum, .int m_upToDate])), (mq1, .inl (cI, 100, .inl res)), (mq2, .inl (cI, 11264, .inl m_best)), (mq3, .inl (cI, 10, .inl m_chosen)), (mq4, .inl (cI, 10, .inl m_pieceDuals)), (mq5, .inl (cI, 10, .inl m_orderDuals))]) A) ([.ref sq] : List Value).toArray s 0 0 A) (F0 m 22 ls []) := by
          intro K hK22 n
          induction n with
          | zero => intro y1b y2b m_gainsb H locs ls hl hP hD hS hm; exact absurd hm (by simp [L_S_offerPairs_22])
          | succ n ih22 =>
            intro y1b y2b m_gainsb H locs ls hl hP hD hS hm
            rw [L_S_offerPairs_22] at hm
            refine lv_iload_n hx hb d_S_offerPairs_22 rfl (lv_at hl 2 rfl) ?_
            refine lv_aload_n hx hb d_S_offerPairs_23 rfl (lv_at hl 0 rfl) ?_
            refine va_get (D := (dC, dI)) (ci := 4) (v := .ref oq) (C := R_S) (T := F_S) (N := 11) hx hb hts hk1 hown hK hP 0 rfl rfl 1 (by decide) hk3 (fun _ h9 => h9) rfl d_S_offerPairs_24 ?_
            obtain ⟨r4, hc, hm⟩ := bd hm
            try dsimp only at hm
            refine vp_callSi (W.runV (As := []) (rest := [.int y2b]) ⟨hx, hb, hml, hown, hts⟩ (c_B_size l dC dI cI oq oq1 oq2 oq3 oq4 o_thicks o_wides o_lengths o_grades o_count  N r4 hc) (cwV 0 hts (gV (w0 186 rfl) (w0 187 rfl) (w0 188 rfl) (w0 29 rfl) (w0 189 rfl)) rfl rfl rfl q_B_size ⟨Nat.le_of_ble_eq_true rfl, Nat.le_of_ble_eq_true rfl⟩) (ro_preV [6, 7, 8, 9, 10] rfl hK hP hN 0 0 (R_B, F_B, 5) rfl rfl) rfl rfl hl.1 rfl (lv_room (Nat.le_of_ble_eq_true rfl)) d_S_offerPairs_27 ⟨Nat.le_of_ble_eq_true rfl, Nat.le_of_ble_eq_true rfl⟩) (fun r9 hr9 => ?_)
            subst hr9
            refine lv_icmp_ge (tgt := 63) hx hb d_S_offerPairs_30 (by decide) (fun c9 => ?_) (fun c9 => ?_)
            · replace hm := if_t c9 hm
              have hl : lv_has ls 3 [(0, .ref sq), (1, .int y1b), (2, .int y2b)] := lv_sub hl [0, 1, 2] rfl
              exact hK22 y1b y2b m_gainsb _ _ ls hl hP hD hS hm
            · replace hm := if_f c9 hm
              refine lv_aload_n hx hb d_S_offerPairs_33 rfl (lv_at hl 0 rfl) ?_
              refine lv_iload_n hx hb d_S_offerPairs_34 rfl (lv_at hl 1 rfl) ?_
              refine lv_iload_n hx hb d_S_offerPairs_35 rfl (lv_at hl 2 rfl) ?_
              obtain ⟨r5, hc, hm⟩ := bd hm
              try dsimp only at hm
              refine vp_callSi (W.runV (As := [.int y1b, .int y2b]) (rest := []) ⟨hx, hb, hml, hown, hts⟩ (c_S_mayPair l dC dI cI sq pq pq1 pq2 pq3 pq4 oq oq1 oq2 oq3 oq4 sq3 sq4 uq uq1 hq hq1 hq2 mq mq1 mq2 mq3 mq4 mq5 p_thicks p_wides p_lengths p_grades p_count o_thicks o_wides o_lengths o_grades o_count s_cameOn s_told u_ordersOfPiece u_usedOrders h_orderOfPiece h_lastDay h_heldOrders m_gainsb m_best m_chosen m_pieceDuals m_orderDuals m_pieceCount m_orderCount m_pairs m_worthSum m_upToDate s_today s_cutOff s_agingOff s_saleAge y1b y2b N r5 hc) (cwV 2 hts (gV (w0 190 rfl) (w0 191 rfl) (w0 1 rfl) (w0 28 rfl) (w0 192 rfl)) rfl rfl rfl q_S_mayPair ⟨Nat.le_of_ble_eq_true rfl, Nat.le_of_ble_eq_true rfl⟩) (ro_preV [0, 1, 2, 3, 4, 5, 6, 7, 8, 9, 10, 11, 12, 13, 14, 15, 16, 17, 18, 19, 20, 21, 22, 23] rfl hK hP hN 4 0 (R_S, F_S, 11) rfl rfl) rfl rfl hl.1 rfl (lv_room (Nat.le_of_ble_eq_true rfl)) d_S_offerPairs_36 ⟨Nat.le_of_ble_eq_true rfl, Nat.le_of_ble_eq_true rfl⟩) (fun r9 hr9 => ?_)
              subst hr9
              refine lv_if_eq (tgt := 57) hx hb d_S_offerPairs_39 (by decide) (fun c9 => ?_) (fun c9 => ?_)
              · replace hm := if_t c9 hm
                refine lv_iinc (v := (y2b + 1)) (lv' := [(2, .int (y2b + 1)), (0, .ref sq), (1, .int y1b)]) hx hb d_S_offerPairs_57 hl (k := 2) rfl rfl (by decide) rfl (fun ls hl => ?_)
                refine lv_goto (tgt := 22) hx hb d_S_offerPairs_60 (by decide) ?_
                have hl : lv_has ls 3 [(0, .ref sq), (1, .int y1b), (2, .int (y2b + 1))] := lv_sub hl [1, 2, 0] rfl
                exact ih22 y1b (y2b + 1) m_gainsb _ _ ls hl hP hD hS hm
              · replace hm := if_f c9 hm
                refine lv_aload_n hx hb d_S_offerPairs_42 rfl (lv_at hl 0 rfl) ?_
                refine va_get (D := (dC, dI)) (ci := 4) (v := .ref mq) (C := R_S) (T := F_S) (N := 11) hx hb hts hk1 hown hK hP 0 rfl rfl 6 (by decide) hk0 (fun _ h9 => h9) rfl d_S_offerPairs_43 ?_
                refine lv_iload_n hx hb d_S_offerPairs_46 rfl (lv_at hl 1 rfl) ?_
                refine lv_iload_n hx hb d_S_offerPairs_47 rfl (lv_at hl 2 rfl) ?_
                refine lv_aload_n hx hb d_S_offerPairs_48 rfl (lv_at hl 0 rfl) ?_
                refine lv_iload_n hx hb d_S_offerPairs_49 rfl (lv_at hl 1 rfl) ?_
                refine lv_iload_n hx hb d_S_offerPairs_50 rfl (lv_at hl 2 rfl) ?_
                obtain ⟨r6, hc, hm⟩ := bd hm
                try dsimp only at hm
                refine vp_callSi (W.runV (As := [.int y1b, .int y2b]) (rest := [.int y2b, .int y1b, .ref mq]) ⟨hx, hb, hml, hown, hts⟩ (c_S_worthToday l dC dI cI sq pq pq1 pq2 pq3 pq4 oq oq1 oq2 oq3 oq4 sq3 sq4 uq uq1 hq hq1 hq2 mq mq1 mq2 mq3 mq4 mq5 p_thicks p_wides p_lengths p_grades p_count o_thicks o_wides o_lengths o_grades o_count s_cameOn s_told u_ordersOfPiece u_usedOrders h_orderOfPiece h_lastDay h_heldOrders m_gainsb m_best m_chosen m_pieceDuals m_orderDuals m_pieceCount m_orderCount m_pairs m_worthSum m_upToDate s_today s_cutOff s_agingOff s_saleAge y1b y2b N r6 hc) (cwV 2 hts (gV (w0 217 rfl) (w0 218 rfl) (w0 2 rfl) (w0 28 rfl) (w0 219 rfl)) rfl rfl rfl q_S_worthToday ⟨Nat.le_of_ble_eq_true rfl, Nat.le_of_ble_eq_true rfl⟩) (ro_preV [0, 1, 2, 3, 4, 5, 6, 7, 8, 9, 10, 11, 12, 13, 14, 15, 16, 17, 18, 19, 20, 21, 22, 23] rfl hK hP hN 4 0 (R_S, F_S, 11) rfl rfl) rfl rfl hl.1 rfl (lv_room (Nat.le_of_ble_eq_true rfl)) d_S_offerPairs_51 ⟨Nat.le_of_ble_eq_true rfl, Nat.le_of_ble_eq_true rfl⟩) (fun r9 hr9 => ?_)
                subst hr9
                obtain ⟨u8, hc, hm⟩ := bd hm
                try dsimp only at hm
                have hPc := hP.sub (ws' := [(mq, .inr (3, [.ref mq1, .ref mq2, .ref mq3, .ref mq4, .ref mq5, .int m_pieceCount, .int m_orderCount, .int m_pairs, .int m_worthSum, .int m_upToDate])), (mq1, .inl (cI, 100, .inl m_gainsb)), (mq2, .inl (cI, 11264, .inl m_best)), (mq3, .inl (cI, 10, .inl m_chosen)), (mq4, .inl (cI, 10, .inl m_pieceDuals)), (mq5, .inl (cI, 10, .inl m_orderDuals))]) [18, 19, 20, 21, 22, 23] rfl
                have hDc := hD.sub (ws' := [(mq, .inr (3, [.ref mq1, .ref mq2, .ref mq3, .ref mq4, .ref mq5, .int m_pieceCount, .int m_orderCount, .int m_pairs, .int m_worthSum, .int m_upToDate])), (mq1, .inl (cI, 100, .inl m_gainsb)), (mq2, .inl (cI, 11264, .inl m_best)), (mq3, .inl (cI, 10, .inl m_chosen)), (mq4, .inl (cI, 10, .inl m_pieceDuals)), (mq5, .inl (cI, 10, .inl m_orderDuals))]) [18, 19, 20, 21, 22, 23] (by decide) rfl
                have hFc := va_free (wc := [(mq, .inr (3, [.ref mq1, .ref mq2, .ref mq3, .ref mq4, .ref mq5, .int m_pieceCount, .int m_orderCount, .int m_pairs, .int m_worthSum, .int m_upToDate])), (mq1, .inl (cI, 100, .inl m_gainsb)), (mq2, .inl (cI, 11264, .inl m_best)), (mq3, .inl (cI, 10, .inl m_chosen)), (mq4, .inl (cI, 10, .inl m_pieceDuals)), (mq5, .inl (cI, 10, .inl m_orderDuals))]) hD hS hA [18, 19, 20, 21, 22, 23] rfl
                refine va_callv (va_runV (As := [.int y1b, .int y2b, .int r6]) (rest := []) ⟨hx, hb, hml, hown, hts⟩ (c_M_offer l dC dI cI mq mq1 mq2 mq3 mq4 mq5 H.size m_gainsb m_best m_chosen m_pieceDuals m_orderDuals m_pieceCount m_orderCount m_pairs m_worthSum m_upToDate y1b y2b r6 N u8 hc) (cwV 3 hts (gV (w0 233 rfl) (w0 234 rfl) (w0 235 rfl) (w0 32 rfl) (w0 236 rfl)) rfl rfl rfl q_M_offer ⟨Nat.le_of_ble_eq_true rfl, Nat.le_of_ble_eq_true rfl⟩) (wr_preV hK hPc hDc hN 3 0 (R_M, F_M, 10) rfl rfl) rfl rfl hl.1 rfl (lv_room (Nat.le_of_ble_eq_true rfl)) d_S_offerPairs_54 ⟨Nat.le_of_ble_eq_true rfl, Nat.le_of_ble_eq_true rfl⟩) hS (fun q _ h => hFc q h) hFc (fun u t H1 locs ht hvm hw hB hz1 hk1 hS => ?_)
                obtain ⟨hP1, hK1, hD1⟩ := hB
                rw [ht] at hP1
                obtain ⟨hP, hD⟩ := va_join (wr := [(sq, .inr (4, [.ref pq, .ref oq, .ref sq3, .ref sq4, .ref uq, .ref hq, .ref mq, .int s_today, .int s_cutOff, .int s_agingOff, .int s_saleAge])), (pq, .inr (0, [.ref pq1, .ref pq2, .ref pq3, .ref pq4, .int p_count])), (pq1, .inl (cI, 10, .inl p_thicks)), (pq2, .inl (cI, 10, .inl p_wides)), (pq3, .inl (cI, 10, .inl p_lengths)), (pq4, .inl (cI, 10, .inl p_grades)), (oq, .inr (0, [.ref oq1, .ref oq2, .ref oq3, .ref oq4, .int o_count])), (oq1, .inl (cI, 10, .inl o_thicks)), (oq2, .inl (cI, 10, .inl o_wides)), (oq3, .inl (cI, 10, .inl o_lengths)), (oq4, .inl (cI, 10, .inl o_grades)), (sq3, .inl (cI, 10, .inl s_cameOn)), (sq4, .inl (cI, 100, .inl s_told)), (uq, .inr (1, [.ref uq1, .int u_usedOrders])), (uq1, .inl (cI, 10, .inl u_ordersOfPiece)), (hq, .inr (2, [.ref hq1, .ref hq2, .int h_heldOrders])), (hq1, .inl (cI, 10, .inl h_orderOfPiece)), (hq2, .inl (cI, 10, .inl h_lastDay))]) (w1 := [(mq, .inr (3, [.ref mq1, .ref mq2, .ref mq3, .ref mq4, .ref mq5, .int m_pieceCount, .int m_orderCount, .int m_pairs, .int m_worthSum, .int m_upToDate])), (mq1, .inl (cI, 100, .inl u8)), (mq2, .inl (cI, 11264, .inl m_best)), (mq3, .inl (cI, 10, .inl m_chosen)), (mq4, .inl (cI, 10, .inl m_pieceDuals)), (mq5, .inl (cI, 10, .inl m_orderDuals))]) hP hD [18, 19, 20, 21, 22, 23] [0, 1, 2, 3, 4, 5, 6, 7, 8, 9, 10, 11, 12, 13, 14, 15, 16, 17] rfl rfl (by decide) (by decide) hk1 hFc hP1 hD1
                generalize H1 = H at hP hS ⊢
                have hP : va_P (dC, dI) classes [(sq, .inr (4, [.ref pq, .ref oq, .ref sq3, .ref sq4, .ref uq, .ref hq, .ref mq, .int s_today, .int s_cutOff, .int s_agingOff, .int s_saleAge])), (pq, .inr (0, [.ref pq1, .ref pq2, .ref pq3, .ref pq4, .int p_count])), (pq1, .inl (cI, 10, .inl p_thicks)), (pq2, .inl (cI, 10, .inl p_wides)), (pq3, .inl (cI, 10, .inl p_lengths)), (pq4, .inl (cI, 10, .inl p_grades)), (oq, .inr (0, [.ref oq1, .ref oq2, .ref oq3, .ref oq4, .int o_count])), (oq1, .inl (cI, 10, .inl o_thicks)), (oq2, .inl (cI, 10, .inl o_wides)), (oq3, .inl (cI, 10, .inl o_lengths)), (oq4, .inl (cI, 10, .inl o_grades)), (sq3, .inl (cI, 10, .inl s_cameOn)), (sq4, .inl (cI, 100, .inl s_told)), (uq, .inr (1, [.ref uq1, .int u_usedOrders])), (uq1, .inl (cI, 10, .inl u_ordersOfPiece)), (hq, .inr (2, [.ref hq1, .ref hq2, .int h_heldOrders])), (hq1, .inl (cI, 10, .inl h_orderOfPiece)), (hq2, .inl (cI, 10, .inl h_lastDay)), (mq, .inr (3, [.ref mq1, .ref mq2, .ref mq3, .ref mq4, .ref mq5, .int m_pieceCount, .int m_orderCount, .int m_pairs, .int m_worthSum, .int m_upToDate])), (mq1, .inl (cI, 100, .inl u8)), (mq2, .inl (cI, 11264, .inl m_best)), (mq3, .inl (cI, 10, .inl m_chosen)), (mq4, .inl (cI, 10, .inl m_pieceDuals)), (mq5, .inl (cI, 10, .inl m_orderDuals))] H := hP
                have hD : va_D A [(sq, .inr (4, [.ref pq, .ref oq, .ref sq3, .ref sq4, .ref uq, .ref hq, .ref mq, .int s_today, .int s_cutOff, .int s_agingOff, .int s_saleAge])), (pq, .inr (0, [.ref pq1, .ref pq2, .ref pq3, .ref pq4, .int p_count])), (pq1, .inl (cI, 10, .inl p_thicks)), (pq2, .inl (cI, 10, .inl p_wides)), (pq3, .inl (cI, 10, .inl p_lengths)), (pq4, .inl (cI, 10, .inl p_grades)), (oq, .inr (0, [.ref oq1, .ref oq2, .ref oq3, .ref oq4, .int o_count])), (oq1, .inl (cI, 10, .inl o_thicks)), (oq2, .inl (cI, 10, .inl o_wides)), (oq3, .inl (cI, 10, .inl o_lengths)), (oq4, .inl (cI, 10, .inl o_grades)), (sq3, .inl (cI, 10, .inl s_cameOn)), (sq4, .inl (cI, 100, .inl s_told)), (uq, .inr (1, [.ref uq1, .int u_usedOrders])), (uq1, .inl (cI, 10, .inl u_ordersOfPiece)), (hq, .inr (2, [.ref hq1, .ref hq2, .int h_heldOrders])), (hq1, .inl (cI, 10, .inl h_orderOfPiece)), (hq2, .inl (cI, 10, .inl h_lastDay)), (mq, .inr (3, [.ref mq1, .ref mq2, .ref mq3, .ref mq4, .ref mq5, .int m_pieceCount, .int m_orderCount, .int m_pairs, .int m_worthSum, .int m_upToDate])), (mq1, .inl (cI, 100, .inl u8)), (mq2, .inl (cI, 11264, .inl m_best)), (mq3, .inl (cI, 10, .inl m_chosen)), (mq4, .inl (cI, 10, .inl m_pieceDuals)), (mq5, .inl (cI, 10, .inl m_orderDuals))] := hD
                clear hP1 hD1 hPc hDc hFc hk1 hz1
                refine lv_iinc (v := (y2b + 1)) (lv' := [(2, .int (y2b + 1)), (0, .ref sq), (1, .int y1b)]) hx hb d_S_offerPairs_57 hl (k := 2) rfl rfl (by decide) rfl (fun ls hl => ?_)
                refine lv_goto (tgt := 22) hx hb d_S_offerPairs_60 (by decide) ?_
                have hl : lv_has ls 3 [(0, .ref sq), (1, .int y1b), (2, .int (y2b + 1))] := lv_sub hl [1, 2, 0] rfl
                exact ih22 y1b (y2b + 1) u8 _ _ ls hl hP hD hS hm
        have hl : lv_has ls 3 [(0, .ref sq), (1, .int y1a), (2, .int 0)] := lv_sub hl [1, 2, 0] rfl
        refine key22 _ (fun y1b y2b m_gainsb H locs ls hl hP hD hS hm => ?_) N y1a 0 m_gainsa _ _ ls hl hP hD hS hm
        try dsimp only at hm
        refine lv_iinc (v := (y1b + 1)) (lv' := [(1, .int (y1b + 1)), (0, .ref sq), (2, .int y2b)]) hx hb d_S_offerPairs_63 hl (k := 1) rfl rfl (by decide) rfl (fun ls hl => ?_)
        refine lv_goto (tgt := 9) hx hb d_S_offerPairs_66 (by decide) ?_
        have hl : lv_has ls 3 [(0, .ref sq), (1, .int (y1b + 1))] := lv_sub hl [1, 0] rfl
        exact ih9 (y1b + 1) m_gainsb _ _ ls hl hP hD hS hm
  have hl : lv_has ls 3 [(0, .ref sq), (1, .int 0)] := lv_sub hl [1, 0] rfl
  refine key9 _ (fun y1a m_gainsa H locs ls hl hP hD hS hm => ?_) N 0 u2 _ _ ls hl hP hD hS hm
  try dsimp only at hm
  cases hm
  refine W.widen (k := 0) (n := 0) (Nat.le_of_ble_eq_true rfl) (Nat.le_of_ble_eq_true rfl) ?_
  exact W.vret hx hb hr (fun t ht hW => ⟨⟨(), rfl, trivial, by rw [ht]; exact hP, va_K.moved hW.alike hK, hD⟩, hS.F ht⟩) hS.2.2 d_S_offerPairs_69

def w_S_openOrders : List Cond := .code y_S_openOrders b_S_openOrders 4 (some .int) :: W0
theorem q_S_openOrders : y_S_openOrders.cls = R_S ∧ y_S_openOrders.cls ≠ "java/lang/invoke/MethodHandle" ∧ y_S_openOrders.cls ≠ "java/lang/invoke/VarHandle" ∧ (parseMethodDescriptor y_S_openOrders.desc).map (fun d => d.parameters.length) = some 1 := by decide +kernel
def L_S_openOrders_4 (N : Nat) (p_thicks : Nat → Int32) (p_wides : Nat → Int32) (p_lengths : Nat → Int32) (p_grades : Nat → Int32) (o_thicks : Nat → Int32) (o_wides : Nat → Int32) (o_lengths : Nat → Int32) (o_grades : Nat → Int32) (o_count : Int32) (u_ordersOfPiece : Nat → Int32) (u_usedOrders : Int32) (h_orderOfPiece : Nat → Int32) (h_heldOrders : Int32) (K : Int32 → Int32 → Int32 → Option Int32) : Nat → Int32 → Int32 → Int32 → Option Int32
  | 0, _, _, _ => none
  | n + 1, y1a, y2a, y3a =>
    ((m_B_size o_count).bind fun r1 =>
    (if r1 ≤ y3a then
      K y1a y2a y3a
     else
      ((m_S_mayPair p_thicks p_wides p_lengths p_grades o_thicks o_wides o_lengths o_grades u_ordersOfPiece u_usedOrders h_orderOfPiece h_heldOrders y1a y3a).bind fun r2 =>
        (if r2 = 0 then
          L_S_openOrders_4 N p_thicks p_wides p_lengths p_grades o_thicks o_wides o_lengths o_grades o_count u_ordersOfPiece u_usedOrders h_orderOfPiece h_heldOrders K n y1a y2a (y3a + 1)
         else
          L_S_openOrders_4 N p_thicks p_wides p_lengths p_grades o_thicks o_wides o_lengths o_grades o_count u_ordersOfPiece u_usedOrders h_orderOfPiece h_heldOrders K n y1a (y2a ||| ((1 : Int32) <<< (y3a &&& 31))) (y3a + 1)))))
def m_S_openOrders (N : Nat) (p_thicks : Nat → Int32) (p_wides : Nat → Int32) (p_lengths : Nat → Int32) (p_grades : Nat → Int32) (o_thicks : Nat → Int32) (o_wides : Nat → Int32) (o_lengths : Nat → Int32) (o_grades : Nat → Int32) (o_count : Int32) (u_ordersOfPiece : Nat → Int32) (u_usedOrders : Int32) (h_orderOfPiece : Nat → Int32) (h_heldOrders : Int32) (x1 : Int32) : Option Int32 :=
  L_S_openOrders_4 N p_thicks p_wides p_lengths p_grades o_thicks o_wides o_lengths o_grades o_count u_ordersOfPiece u_usedOrders h_orderOfPiece h_heldOrders (fun y1a y2a y3a =>
  some y2a) N x1 0 0
set_option maxHeartbeats 4000000 in
set_option maxRecDepth 100000 in
theorem c_S_openOrders (l : Launch) (dC : Nat → ClassId) (dI : Nat → Nat → Nat) (cI : ClassId) (sq pq pq1 pq2 pq3 pq4 oq oq1 oq2 oq3 oq4 sq3 sq4 uq uq1 hq hq1 hq2 mq mq1 mq2 mq3 mq4 mq5 : Nat) (p_thicks : Nat → Int32) (p_wides : Nat → Int32) (p_lengths : Nat → Int32) (p_grades : Nat → Int32) (p_count : Int32) (o_thicks : Nat → Int32) (o_wides : Nat → Int32) (o_lengths : Nat → Int32) (o_grades : Nat → Int32) (o_count : Int32) (s_cameOn : Nat → Int32) (s_told : Nat → Int32) (u_ordersOfPiece : Nat → Int32) (u_usedOrders : Int32) (h_orderOfPiece : Nat → Int32) (h_lastDay : Nat → Int32) (h_heldOrders : Int32) (m_gains : Nat → Int32) (m_best : Nat → Int32) (m_chosen : Nat → Int32) (m_pieceDuals : Nat → Int32) (m_orderDuals : Nat → Int32) (m_pieceCount : Int32) (m_orderCount : Int32) (m_pairs : Int32) (m_worthSum : Int32) (m_upToDate : Int32) (s_today : Int32) (s_cutOff : Int32) (s_agingOff : Int32) (s_saleAge : Int32) (x1 : Int32) (N : Nat) (res : Int32) (hm : m_S_openOrders N p_thicks p_wides p_lengths p_grades o_thicks o_wides o_lengths o_grades o_count u_ordersOfPiece u_usedOrders h_orderOfPiece h_heldOrders x1 = some res) : Met l y_S_openOrders w_S_openOrders ({ frames := 3, cells := 0, slots := 0, locals := 65 } : Room) (va_Pc [.ref sq, .int x1] (fun U => va_P (dC, dI) classes [(sq, .inr (4, [.ref pq, .ref oq, .ref sq3, .ref sq4, .ref uq, .ref hq, .ref mq, .int s_today, .int s_cutOff, .int s_agingOff, .int s_saleAge])), (pq, .inr (0, [.ref pq1, .ref pq2, .ref pq3, .ref pq4, .int p_count])), (pq1, .inl (cI, 10, .inl p_thicks)), (pq2, .inl (cI, 10, .inl p_wides)), (pq3, .inl (cI, 10, .inl p_lengths)), (pq4, .inl (cI, 10, .inl p_grades)), (oq, .inr (0, [.ref oq1, .ref oq2, .ref oq3, .ref oq4, .int o_count])), (oq1, .inl (cI, 10, .inl o_thicks)), (oq2, .inl (cI, 10, .inl o_wides)), (oq3, .inl (cI, 10, .inl o_lengths)), (oq4, .inl (cI, 10, .inl o_grades)), (sq3, .inl (cI, 10, .inl s_cameOn)), (sq4, .inl (cI, 100, .inl s_told)), (uq, .inr (1, [.ref uq1, .int u_usedOrders])), (uq1, .inl (cI, 10, .inl u_ordersOfPiece)), (hq, .inr (2, [.ref hq1, .ref hq2, .int h_heldOrders])), (hq1, .inl (cI, 10, .inl h_orderOfPiece)), (hq2, .inl (cI, 10, .inl h_lastDay)), (mq, .inr (3, [.ref mq1, .ref mq2, .ref mq3, .ref mq4, .ref mq5, .int m_pieceCount, .int m_orderCount, .int m_pairs, .int m_worthSum, .int m_upToDate])), (mq1, .inl (cI, 100, .inl m_gains)), (mq2, .inl (cI, 11264, .inl m_best)), (mq3, .inl (cI, 10, .inl m_chosen)), (mq4, .inl (cI, 10, .inl m_pieceDuals)), (mq5, .inl (cI, 10, .inl m_orderDuals))] U.heap ∧ va_K (dC, dI) classes [(cI, .int)] U ∧ nw U)) (vp_Si (fun x => res = x)) 0 0 (fun _ => False) := by
  unfold m_S_openOrders at hm
  refine Met.ofW (cc := b_S_openOrders) (maxL := 4) (ret := (some .int)) (by decide) rfl ?_
  intro p e s m args below meth c s₁ B hml hv
  obtain ⟨rfl, hP, hK, hN⟩ := hv
  have hx := B.exec
  have hb := B.bytes
  have hr := B.returns
  have hts := atoms_spec (ws := w_S_openOrders) B.pre
  have hown : s.vm.findClass R_S = some m.cls := findClass_of_methodNamed B.named
  have hlocks := B.notSynchronized
  have hk0 := hts (.fieldLink R_S 16 "SurplusMatch" "orders" "LSurplusMatch$Boards;") (List.mem_cons_of_mem _ (w0 142 rfl))
  have hk1 : ∀ w ∈ w_S, w ∈ w_S_openOrders := fun w h => List.mem_cons_of_mem _ (i_S w h)
  have hl := lv_entry ([.ref sq, .int x1]) (n := 4) (Nat.le_of_ble_eq_true rfl)
  rw [lg_entry_eq]
  generalize (lg_sl ([.ref sq, .int x1]) ++ List.replicate (4 - (lg_sl ([.ref sq, .int x1])).length) Slot.unset).toArray = ls at hl ⊢
  have hl : lv_has ls 4 [(0, .ref sq), (1, .int x1)] := hl
  refine lv_iconst (v := 0) hx hb d_S_openOrders_0 (by decide) ?_
  refine lv_istore_n (lv' := [(2, .int 0), (0, .ref sq), (1, .int x1)]) hx hb d_S_openOrders_1 rfl hl (by decide) rfl (fun ls hl => ?_)
  refine lv_iconst (v := 0) hx hb d_S_openOrders_2 (by decide) ?_
  refine lv_istore_n (lv' := [(3, .int 0), (2, .int 0), (0, .ref sq), (1, .int x1)]) hx hb d_S_openOrders_3 rfl hl (by decide) rfl (fun ls hl => ?_)
  have key4 : ∀ (K : Int32 → Int32 → Int32 → Option Int32) (_ : ∀ (y1a : Int32) (y2a : Int32) (y3a : Int32) (ls : Array Slot), lv_has ls 4 [(0, .ref sq), (1, .int y1a), (2, .int y2a), (3, .int y3a)] → K y1a y2a y3a = some res → W p l e (headSpec w_S_openOrders ({ frames := 3, cells := 0, slots := 0, locals := 65 } : Room)).room s m ([.ref sq, .int x1] : List Value).toArray below meth c s.heap [] 0 0 (MQ below (vp_Si (fun x => res = x)) ([.ref sq, .int x1] : List Value).toArray s 0 0 (fun _ => False)) (F0 m 36 ls [])) (n : Nat) (y1a : Int32) (y2a : Int32) (y3a : Int32) (ls : Array Slot), lv_has ls 4 [(0, .ref sq), (1, .int y1a), (2, .int y2a), (3, .int y3a)] → L_S_openOrders_4 N p_thicks p_wides p_lengths p_grades o_thicks o_wides o_lengths o_grades o_count u_ordersOfPiece u_usedOrders h_orderOfPiece h_heldOrders K n y1a y2a y3a = some res → W p l e (headSpec w_S_openOrders ({ frames := 3, cells := 0, slots := 0, locals := 65 } : Room)).room s m ([.ref sq, .int x1] : List Value).toArray below meth c s.heap [] 0 0 (MQ below (vp_Si (fun x => res = x)) ([.ref sq, .int x1] : List Value).toArray s 0 0 (fun _ => False)) (F0 m 4 ls []) := by
    intro K hK4 n
    induction n with
    | zero => intro y1a y2a y3a ls hl hm; exact absurd hm (by simp [L_S_openOrders_4])
    | succ n ih4 =>
      intro y1a y2a y3a ls hl hm
      rw [L_S_openOrders_4] at hm
      refine lv_iload_n hx hb d_S_openOrders_4 rfl (lv_at hl 3 rfl) ?_
      refine lv_aload_n hx hb d_S_openOrders_5 rfl (lv_at hl 0 rfl) ?_
      refine va_get (D := (dC, dI)) (ci := 4) (v := .ref oq) (C := R_S) (T := F_S) (N := 11) hx hb hts hk1 hown hK hP 0 rfl rfl 1 (by decide) hk0 (fun _ h9 => h9) rfl d_S_openOrders_6 ?_
      obtain ⟨r1, hc, hm⟩ := bd hm
      try dsimp only at hm
      refine vp_callSi (W.runV (As := []) (rest := [.int y3a]) ⟨hx, hb, hml, hown, hts⟩ (c_B_size l dC dI cI oq oq1 oq2 oq3 oq4 o_thicks o_wides o_lengths o_grades o_count  N r1 hc) (cwV 0 hts (gV (w0 186 rfl) (w0 187 rfl) (w0 188 rfl) (w0 29 rfl) (w0 189 rfl)) rfl rfl rfl q_B_size ⟨Nat.le_of_ble_eq_true rfl, Nat.le_of_ble_eq_true rfl⟩) (ro_preV [6, 7, 8, 9, 10] rfl hK hP hN 0 0 (R_B, F_B, 5) rfl rfl) rfl rfl hl.1 rfl (lv_room (Nat.le_of_ble_eq_true rfl)) d_S_openOrders_9 ⟨Nat.le_of_ble_eq_true rfl, Nat.le_of_ble_eq_true rfl⟩) (fun r9 hr9 => ?_)
      subst hr9
      refine lv_icmp_ge (tgt := 36) hx hb d_S_openOrders_12 (by decide) (fun c9 => ?_) (fun c9 => ?_)
      · replace hm := if_t c9 hm
        have hl : lv_has ls 4 [(0, .ref sq), (1, .int y1a), (2, .int y2a), (3, .int y3a)] := lv_sub hl [0, 1, 2, 3] rfl
        exact hK4 y1a y2a y3a ls hl hm
      · replace hm := if_f c9 hm
        refine lv_aload_n hx hb d_S_openOrders_15 rfl (lv_at hl 0 rfl) ?_
        refine lv_iload_n hx hb d_S_openOrders_16 rfl (lv_at hl 1 rfl) ?_
        refine lv_iload_n hx hb d_S_openOrders_17 rfl (lv_at hl 3 rfl) ?_
        obtain ⟨r2, hc, hm⟩ := bd hm
        try dsimp only at hm
        refine vp_callSi (W.runV (As := [.int y1a, .int y3a]) (rest := []) ⟨hx, hb, hml, hown, hts⟩ (c_S_mayPair l dC dI cI sq pq pq1 pq2 pq3 pq4 oq oq1 oq2 oq3 oq4 sq3 sq4 uq uq1 hq hq1 hq2 mq mq1 mq2 mq3 mq4 mq5 p_thicks p_wides p_lengths p_grades p_count o_thicks o_wides o_lengths o_grades o_count s_cameOn s_told u_ordersOfPiece u_usedOrders h_orderOfPiece h_lastDay h_heldOrders m_gains m_best m_chosen m_pieceDuals m_orderDuals m_pieceCount m_orderCount m_pairs m_worthSum m_upToDate s_today s_cutOff s_agingOff s_saleAge y1a y3a N r2 hc) (cwV 2 hts (gV (w0 190 rfl) (w0 191 rfl) (w0 1 rfl) (w0 28 rfl) (w0 192 rfl)) rfl rfl rfl q_S_mayPair ⟨Nat.le_of_ble_eq_true rfl, Nat.le_of_ble_eq_true rfl⟩) (ro_preV [0, 1, 2, 3, 4, 5, 6, 7, 8, 9, 10, 11, 12, 13, 14, 15, 16, 17, 18, 19, 20, 21, 22, 23] rfl hK hP hN 4 0 (R_S, F_S, 11) rfl rfl) rfl rfl hl.1 rfl (lv_room (Nat.le_of_ble_eq_true rfl)) d_S_openOrders_18 ⟨Nat.le_of_ble_eq_true rfl, Nat.le_of_ble_eq_true rfl⟩) (fun r9 hr9 => ?_)
        subst hr9
        refine lv_if_eq (tgt := 30) hx hb d_S_openOrders_21 (by decide) (fun c9 => ?_) (fun c9 => ?_)
        · replace hm := if_t c9 hm
          refine lv_iinc (v := (y3a + 1)) (lv' := [(3, .int (y3a + 1)), (0, .ref sq), (1, .int y1a), (2, .int y2a)]) hx hb d_S_openOrders_30 hl (k := 3) rfl rfl (by decide) rfl (fun ls hl => ?_)
          refine lv_goto (tgt := 4) hx hb d_S_openOrders_33 (by decide) ?_
          have hl : lv_has ls 4 [(0, .ref sq), (1, .int y1a), (2, .int y2a), (3, .int (y3a + 1))] := lv_sub hl [1, 2, 3, 0] rfl
          exact ih4 y1a y2a (y3a + 1) ls hl hm
        · replace hm := if_f c9 hm
          refine lv_iload_n hx hb d_S_openOrders_24 rfl (lv_at hl 2 rfl) ?_
          refine lv_iconst (v := 1) hx hb d_S_openOrders_25 (by decide) ?_
          refine lv_iload_n hx hb d_S_openOrders_26 rfl (lv_at hl 3 rfl) ?_
          refine lv_ishl hx hb d_S_openOrders_27 ?_
          refine lv_ior hx hb d_S_openOrders_28 ?_
          refine lv_istore_n (lv' := [(2, .int (y2a ||| ((1 : Int32) <<< (y3a &&& 31)))), (0, .ref sq), (1, .int y1a), (3, .int y3a)]) hx hb d_S_openOrders_29 rfl hl (by decide) rfl (fun ls hl => ?_)
          refine lv_iinc (v := (y3a + 1)) (lv' := [(3, .int (y3a + 1)), (2, .int (y2a ||| ((1 : Int32) <<< (y3a &&& 31)))), (0, .ref sq), (1, .int y1a)]) hx hb d_S_openOrders_30 hl (k := 3) rfl rfl (by decide) rfl (fun ls hl => ?_)
          refine lv_goto (tgt := 4) hx hb d_S_openOrders_33 (by decide) ?_
          have hl : lv_has ls 4 [(0, .ref sq), (1, .int y1a), (2, .int (y2a ||| ((1 : Int32) <<< (y3a &&& 31)))), (3, .int (y3a + 1))] := lv_sub hl [2, 3, 1, 0] rfl
          exact ih4 y1a (y2a ||| ((1 : Int32) <<< (y3a &&& 31))) (y3a + 1) ls hl hm
  have hl : lv_has ls 4 [(0, .ref sq), (1, .int x1), (2, .int 0), (3, .int 0)] := lv_sub hl [2, 3, 1, 0] rfl
  refine key4 _ (fun y1a y2a y3a ls hl hm => ?_) N x1 0 0 ls hl hm
  try dsimp only at hm
  refine lv_iload_n hx hb d_S_openOrders_36 rfl (lv_at hl 2 rfl) ?_
  cases hm
  exact W.iret hx hb hr (fun t ht hW => ⟨_, rfl, rfl, ht⟩) (fun _ h => nomatch h) d_S_openOrders_37

def w_S_totalWorth : List Cond := .code y_S_totalWorth b_S_totalWorth 5 (some .int) :: W0
theorem q_S_totalWorth : y_S_totalWorth.cls = R_S ∧ y_S_totalWorth.cls ≠ "java/lang/invoke/MethodHandle" ∧ y_S_totalWorth.cls ≠ "java/lang/invoke/VarHandle" ∧ (parseMethodDescriptor y_S_totalWorth.desc).map (fun d => d.parameters.length) = some 2 := by decide +kernel
def L_S_totalWorth_5 (N : Nat) (p_wides : Nat → Int32) (p_lengths : Nat → Int32) (o_wides : Nat → Int32) (o_lengths : Nat → Int32) (o_count : Int32) (s_cameOn : Nat → Int32) (s_told : Nat → Int32) (s_today : Int32) (s_cutOff : Int32) (s_agingOff : Int32) (K : Int32 → Int32 → Int32 → Int32 → Option Int32) : Nat → Int32 → Int32 → Int32 → Int32 → Option Int32
  | 0, _, _, _, _ => none
  | n + 1, y1a, y2a, y3a, y4a =>
    ((m_B_size o_count).bind fun r1 =>
    (if r1 ≤ y4a then
      K y1a y2a y3a y4a
     else
      (if ((y2a >>> (y4a &&& 31)) &&& 1) = 1 then
        ((m_S_worthToday p_wides p_lengths o_wides o_lengths s_cameOn s_told s_today s_cutOff s_agingOff y1a y4a).bind fun r2 =>
          L_S_totalWorth_5 N p_wides p_lengths o_wides o_lengths o_count s_cameOn s_told s_today s_cutOff s_agingOff K n y1a y2a (y3a + r2) (y4a + 1))
       else
        L_S_totalWorth_5 N p_wides p_lengths o_wides o_lengths o_count s_cameOn s_told s_today s_cutOff s_agingOff K n y1a y2a y3a (y4a + 1))))
def m_S_totalWorth (N : Nat) (p_wides : Nat → Int32) (p_lengths : Nat → Int32) (o_wides : Nat → Int32) (o_lengths : Nat → Int32) (o_count : Int32) (s_cameOn : Nat → Int32) (s_told : Nat → Int32) (s_today : Int32) (s_cutOff : Int32) (s_agingOff : Int32) (x1 : Int32) (x2 : Int32) : Option Int32 :=
  L_S_totalWorth_5 N p_wides p_lengths o_wides o_lengths o_count s_cameOn s_told s_today s_cutOff s_agingOff (fun y1a y2a y3a y4a =>
  some y3a) N x1 x2 0 0
set_option maxHeartbeats 4000000 in
set_option maxRecDepth 100000 in
theorem c_S_totalWorth (l : Launch) (dC : Nat → ClassId) (dI : Nat → Nat → Nat) (cI : ClassId) (sq pq pq1 pq2 pq3 pq4 oq oq1 oq2 oq3 oq4 sq3 sq4 uq uq1 hq hq1 hq2 mq mq1 mq2 mq3 mq4 mq5 : Nat) (p_thicks : Nat → Int32) (p_wides : Nat → Int32) (p_lengths : Nat → Int32) (p_grades : Nat → Int32) (p_count : Int32) (o_thicks : Nat → Int32) (o_wides : Nat → Int32) (o_lengths : Nat → Int32) (o_grades : Nat → Int32) (o_count : Int32) (s_cameOn : Nat → Int32) (s_told : Nat → Int32) (u_ordersOfPiece : Nat → Int32) (u_usedOrders : Int32) (h_orderOfPiece : Nat → Int32) (h_lastDay : Nat → Int32) (h_heldOrders : Int32) (m_gains : Nat → Int32) (m_best : Nat → Int32) (m_chosen : Nat → Int32) (m_pieceDuals : Nat → Int32) (m_orderDuals : Nat → Int32) (m_pieceCount : Int32) (m_orderCount : Int32) (m_pairs : Int32) (m_worthSum : Int32) (m_upToDate : Int32) (s_today : Int32) (s_cutOff : Int32) (s_agingOff : Int32) (s_saleAge : Int32) (x1 : Int32) (x2 : Int32) (N : Nat) (res : Int32) (hm : m_S_totalWorth N p_wides p_lengths o_wides o_lengths o_count s_cameOn s_told s_today s_cutOff s_agingOff x1 x2 = some res) : Met l y_S_totalWorth w_S_totalWorth ({ frames := 2, cells := 0, slots := 0, locals := 48 } : Room) (va_Pc [.ref sq, .int x1, .int x2] (fun U => va_P (dC, dI) classes [(sq, .inr (4, [.ref pq, .ref oq, .ref sq3, .ref sq4, .ref uq, .ref hq, .ref mq, .int s_today, .int s_cutOff, .int s_agingOff, .int s_saleAge])), (pq, .inr (0, [.ref pq1, .ref pq2, .ref pq3, .ref pq4, .int p_count])), (pq1, .inl (cI, 10, .inl p_thicks)), (pq2, .inl (cI, 10, .inl p_wides)), (pq3, .inl (cI, 10, .inl p_lengths)), (pq4, .inl (cI, 10, .inl p_grades)), (oq, .inr (0, [.ref oq1, .ref oq2, .ref oq3, .ref oq4, .int o_count])), (oq1, .inl (cI, 10, .inl o_thicks)), (oq2, .inl (cI, 10, .inl o_wides)), (oq3, .inl (cI, 10, .inl o_lengths)), (oq4, .inl (cI, 10, .inl o_grades)), (sq3, .inl (cI, 10, .inl s_cameOn)), (sq4, .inl (cI, 100, .inl s_told)), (uq, .inr (1, [.ref uq1, .int u_usedOrders])), (uq1, .inl (cI, 10, .inl u_ordersOfPiece)), (hq, .inr (2, [.ref hq1, .ref hq2, .int h_heldOrders])), (hq1, .inl (cI, 10, .inl h_orderOfPiece)), (hq2, .inl (cI, 10, .inl h_lastDay)), (mq, .inr (3, [.ref mq1, .ref mq2, .ref mq3, .ref mq4, .ref mq5, .int m_pieceCount, .int m_orderCount, .int m_pairs, .int m_worthSum, .int m_upToDate])), (mq1, .inl (cI, 100, .inl m_gains)), (mq2, .inl (cI, 11264, .inl m_best)), (mq3, .inl (cI, 10, .inl m_chosen)), (mq4, .inl (cI, 10, .inl m_pieceDuals)), (mq5, .inl (cI, 10, .inl m_orderDuals))] U.heap ∧ va_K (dC, dI) classes [(cI, .int)] U ∧ nw U)) (vp_Si (fun x => res = x)) 0 0 (fun _ => False) := by
  unfold m_S_totalWorth at hm
  refine Met.ofW (cc := b_S_totalWorth) (maxL := 5) (ret := (some .int)) (by decide) rfl ?_
  intro p e s m args below meth c s₁ B hml hv
  obtain ⟨rfl, hP, hK, hN⟩ := hv
  have hx := B.exec
  have hb := B.bytes
  have hr := B.returns
  have hts := atoms_spec (ws := w_S_totalWorth) B.pre
  have hown : s.vm.findClass R_S = some m.cls := findClass_of_methodNamed B.named
  have hlocks := B.notSynchronized
  have hk0 := hts (.fieldLink R_S 16 "SurplusMatch" "orders" "LSurplusMatch$Boards;") (List.mem_cons_of_mem _ (w0 142 rfl))
  have hk1 : ∀ w ∈ w_S, w ∈ w_S_totalWorth := fun w h => List.mem_cons_of_mem _ (i_S w h)
  have hl := lv_entry ([.ref sq, .int x1, .int x2]) (n := 5) (Nat.le_of_ble_eq_true rfl)
  rw [lg_entry_eq]
  generalize (lg_sl ([.ref sq, .int x1, .int x2]) ++ List.replicate (5 - (lg_sl ([.ref sq, .int x1, .int x2])).length) Slot.unset).toArray = ls at hl ⊢
  have hl : lv_has ls 5 [(0, .ref sq), (1, .int x1), (2, .int x2)] := hl
  refine lv_iconst (v := 0) hx hb d_S_totalWorth_0 (by decide) ?_
  refine lv_istore_n (lv' := [(3, .int 0), (0, .ref sq), (1, .int x1), (2, .int x2)]) hx hb d_S_totalWorth_1 rfl hl (by decide) rfl (fun ls hl => ?_)
  refine lv_iconst (v := 0) hx hb d_S_totalWorth_2 (by decide) ?_
  refine lv_istore (lv' := [(4, .int 0), (3, .int 0), (0, .ref sq), (1, .int x1), (2, .int x2)]) hx hb d_S_totalWorth_3 hl (by decide) rfl (fun ls hl => ?_)
  have key5 : ∀ (K : Int32 → Int32 → Int32 → Int32 → Option Int32) (_ : ∀ (y1a : Int32) (y2a : Int32) (y3a : Int32) (y4a : Int32) (ls : Array Slot), lv_has ls 5 [(0, .ref sq), (1, .int y1a), (2, .int y2a), (3, .int y3a), (4, .int y4a)] → K y1a y2a y3a y4a = some res → W p l e (headSpec w_S_totalWorth ({ frames := 2, cells := 0, slots := 0, locals := 48 } : Room)).room s m ([.ref sq, .int x1, .int x2] : List Value).toArray below meth c s.heap [] 0 0 (MQ below (vp_Si (fun x => res = x)) ([.ref sq, .int x1, .int x2] : List Value).toArray s 0 0 (fun _ => False)) (F0 m 43 ls [])) (n : Nat) (y1a : Int32) (y2a : Int32) (y3a : Int32) (y4a : Int32) (ls : Array Slot), lv_has ls 5 [(0, .ref sq), (1, .int y1a), (2, .int y2a), (3, .int y3a), (4, .int y4a)] → L_S_totalWorth_5 N p_wides p_lengths o_wides o_lengths o_count s_cameOn s_told s_today s_cutOff s_agingOff K n y1a y2a y3a y4a = some res → W p l e (headSpec w_S_totalWorth ({ frames := 2, cells := 0, slots := 0, locals := 48 } : Room)).room s m ([.ref sq, .int x1, .int x2] : List Value).toArray below meth c s.heap [] 0 0 (MQ below (vp_Si (fun x => res = x)) ([.ref sq, .int x1, .int x2] : List Value).toArray s 0 0 (fun _ => False)) (F0 m 5 ls []) := by
    intro K hK5 n
    induction n with
    | zero => intro y1a y2a y3a y4a ls hl hm; exact absurd hm (by simp [L_S_totalWorth_5])
    | succ n ih5 =>
      intro y1a y2a y3a y4a ls hl hm
      rw [L_S_totalWorth_5] at hm
      refine lv_iload hx hb d_S_totalWorth_5 (lv_at hl 4 rfl) ?_
      refine lv_aload_n hx hb d_S_totalWorth_7 rfl (lv_at hl 0 rfl) ?_
      refine va_get (D := (dC, dI)) (ci := 4) (v := .ref oq) (C := R_S) (T := F_S) (N := 11) hx hb hts hk1 hown hK hP 0 rfl rfl 1 (by decide) hk0 (fun _ h9 => h9) rfl d_S_totalWorth_8 ?_
      obtain ⟨r1, hc, hm⟩ := bd hm
      try dsimp only at hm
      refine vp_callSi (W.runV (As := []) (rest := [.int y4a]) ⟨hx, hb, hml, hown, hts⟩ (c_B_size l dC dI cI oq oq1 oq2 oq3 oq4 o_thicks o_wides o_lengths o_grades o_count  N r1 hc) (cwV 0 hts (gV (w0 186 rfl) (w0 187 rfl) (w0 188 rfl) (w0 29 rfl) (w0 189 rfl)) rfl rfl rfl q_B_size ⟨Nat.le_of_ble_eq_true rfl, Nat.le_of_ble_eq_true rfl⟩) (ro_preV [6, 7, 8, 9, 10] rfl hK hP hN 0 0 (R_B, F_B, 5) rfl rfl) rfl rfl hl.1 rfl (lv_room (Nat.le_of_ble_eq_true rfl)) d_S_totalWorth_11 ⟨Nat.le_of_ble_eq_true rfl, Nat.le_of_ble_eq_true rfl⟩) (fun r9 hr9 => ?_)
      subst hr9
      refine lv_icmp_ge (tgt := 43) hx hb d_S_totalWorth_14 (by decide) (fun c9 => ?_) (fun c9 => ?_)
      · replace hm := if_t c9 hm
        have hl : lv_has ls 5 [(0, .ref sq), (1, .int y1a), (2, .int y2a), (3, .int y3a), (4, .int y4a)] := lv_sub hl [0, 1, 2, 3, 4] rfl
        exact hK5 y1a y2a y3a y4a ls hl hm
      · replace hm := if_f c9 hm
        refine lv_iload_n hx hb d_S_totalWorth_17 rfl (lv_at hl 2 rfl) ?_
        refine lv_iload hx hb d_S_totalWorth_18 (lv_at hl 4 rfl) ?_
        refine lv_ishr hx hb d_S_totalWorth_20 ?_
        refine lv_iconst (v := 1) hx hb d_S_totalWorth_21 (by decide) ?_
        refine lv_iand hx hb d_S_totalWorth_22 ?_
        refine lv_iconst (v := 1) hx hb d_S_totalWorth_23 (by decide) ?_
        refine lv_icmp_ne (tgt := 37) hx hb d_S_totalWorth_24 (by decide) (fun c9 => ?_) (fun c9 => ?_)
        · replace hm := if_f c9 hm
          refine lv_iinc (v := (y4a + 1)) (lv' := [(4, .int (y4a + 1)), (0, .ref sq), (1, .int y1a), (2, .int y2a), (3, .int y3a)]) hx hb d_S_totalWorth_37 hl (k := 4) rfl rfl (by decide) rfl (fun ls hl => ?_)
          refine lv_goto (tgt := 5) hx hb d_S_totalWorth_40 (by decide) ?_
          have hl : lv_has ls 5 [(0, .ref sq), (1, .int y1a), (2, .int y2a), (3, .int y3a), (4, .int (y4a + 1))] := lv_sub hl [1, 2, 3, 4, 0] rfl
          exact ih5 y1a y2a y3a (y4a + 1) ls hl hm
        · replace hm := if_t c9 hm
          refine lv_iload_n hx hb d_S_totalWorth_27 rfl (lv_at hl 3 rfl) ?_
          refine lv_aload_n hx hb d_S_totalWorth_28 rfl (lv_at hl 0 rfl) ?_
          refine lv_iload_n hx hb d_S_totalWorth_29 rfl (lv_at hl 1 rfl) ?_
          refine lv_iload hx hb d_S_totalWorth_30 (lv_at hl 4 rfl) ?_
          obtain ⟨r2, hc, hm⟩ := bd hm
          try dsimp only at hm
          refine vp_callSi (W.runV (As := [.int y1a, .int y4a]) (rest := [.int y3a]) ⟨hx, hb, hml, hown, hts⟩ (c_S_worthToday l dC dI cI sq pq pq1 pq2 pq3 pq4 oq oq1 oq2 oq3 oq4 sq3 sq4 uq uq1 hq hq1 hq2 mq mq1 mq2 mq3 mq4 mq5 p_thicks p_wides p_lengths p_grades p_count o_thicks o_wides o_lengths o_grades o_count s_cameOn s_told u_ordersOfPiece u_usedOrders h_orderOfPiece h_lastDay h_heldOrders m_gains m_best m_chosen m_pieceDuals m_orderDuals m_pieceCount m_orderCount m_pairs m_worthSum m_upToDate s_today s_cutOff s_agingOff s_saleAge y1a y4a N r2 hc) (cwV 2 hts (gV (w0 217 rfl) (w0 218 rfl) (w0 2 rfl) (w0 28 rfl) (w0 219 rfl)) rfl rfl rfl q_S_worthToday ⟨Nat.le_of_ble_eq_true rfl, Nat.le_of_ble_eq_true rfl⟩) (ro_preV [0, 1, 2, 3, 4, 5, 6, 7, 8, 9, 10, 11, 12, 13, 14, 15, 16, 17, 18, 19, 20, 21, 22, 23] rfl hK hP hN 4 0 (R_S, F_S, 11) rfl rfl) rfl rfl hl.1 rfl (lv_room (Nat.le_of_ble_eq_true rfl)) d_S_totalWorth_32 ⟨Nat.le_of_ble_eq_true rfl, Nat.le_of_ble_eq_true rfl⟩) (fun r9 hr9 => ?_)
          subst hr9
          refine lv_iadd hx hb d_S_totalWorth_35 ?_
          refine lv_istore_n (lv' := [(3, .int (y3a + r2)), (0, .ref sq), (1, .int y1a), (2, .int y2a), (4, .int y4a)]) hx hb d_S_totalWorth_36 rfl hl (by decide) rfl (fun ls hl => ?_)
          refine lv_iinc (v := (y4a + 1)) (lv' := [(4, .int (y4a + 1)), (3, .int (y3a + r2)), (0, .ref sq), (1, .int y1a), (2, .int y2a)]) hx hb d_S_totalWorth_37 hl (k := 4) rfl rfl (by decide) rfl (fun ls hl => ?_)
          refine lv_goto (tgt := 5) hx hb d_S_totalWorth_40 (by decide) ?_
          have hl : lv_has ls 5 [(0, .ref sq), (1, .int y1a), (2, .int y2a), (3, .int (y3a + r2)), (4, .int (y4a + 1))] := lv_sub hl [2, 3, 4, 1, 0] rfl
          exact ih5 y1a y2a (y3a + r2) (y4a + 1) ls hl hm
  have hl : lv_has ls 5 [(0, .ref sq), (1, .int x1), (2, .int x2), (3, .int 0), (4, .int 0)] := lv_sub hl [2, 3, 4, 1, 0] rfl
  refine key5 _ (fun y1a y2a y3a y4a ls hl hm => ?_) N x1 x2 0 0 ls hl hm
  try dsimp only at hm
  refine lv_iload_n hx hb d_S_totalWorth_43 rfl (lv_at hl 3 rfl) ?_
  cases hm
  exact W.iret hx hb hr (fun t ht hW => ⟨_, rfl, rfl, ht⟩) (fun _ h => nomatch h) d_S_totalWorth_44

