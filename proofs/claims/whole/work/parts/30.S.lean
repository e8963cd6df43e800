theorem d_S_run_0 : decode b_S_run 0 = .ok (.aload_n 0, 1) := by decide +kernel
theorem d_S_run_1 : decode b_S_run 1 = .ok (.invokevirtual 107, 3) := by decide +kernel
theorem d_S_run_4 : decode b_S_run 4 = .ok (.aload_n 0, 1) := by decide +kernel
theorem d_S_run_5 : decode b_S_run 5 = .ok (.getfield 43, 3) := by decide +kernel
theorem d_S_run_8 : decode b_S_run 8 = .ok (.aload_n 0, 1) := by decide +kernel
theorem d_S_run_9 : decode b_S_run 9 = .ok (.getfield 10, 3) := by decide +kernel
theorem d_S_run_12 : decode b_S_run 12 = .ok (.invokevirtual 110, 3) := by decide +kernel
theorem d_S_run_15 : decode b_S_run 15 = .ok (.aload_n 0, 1) := by decide +kernel
theorem d_S_run_16 : decode b_S_run 16 = .ok (.getfield 16, 3) := by decide +kernel
theorem d_S_run_19 : decode b_S_run 19 = .ok (.invokevirtual 110, 3) := by decide +kernel
theorem d_S_run_22 : decode b_S_run 22 = .ok (.invokevirtual 114, 3) := by decide +kernel
theorem d_S_run_25 : decode b_S_run 25 = .ok (.iconst 0, 1) := by decide +kernel
theorem d_S_run_26 : decode b_S_run 26 = .ok (.istore_n 1, 1) := by decide +kernel
theorem d_S_run_27 : decode b_S_run 27 = .ok (.iload_n 1, 1) := by decide +kernel
theorem d_S_run_28 : decode b_S_run 28 = .ok (.aload_n 0, 1) := by decide +kernel
theorem d_S_run_29 : decode b_S_run 29 = .ok (.getfield 10, 3) := by decide +kernel
theorem d_S_run_32 : decode b_S_run 32 = .ok (.invokevirtual 110, 3) := by decide +kernel
theorem d_S_run_35 : decode b_S_run 35 = .ok (.if_icmp .ge 31, 3) := by decide +kernel
theorem d_S_run_38 : decode b_S_run 38 = .ok (.aload_n 0, 1) := by decide +kernel
theorem d_S_run_39 : decode b_S_run 39 = .ok (.getfield 43, 3) := by decide +kernel
theorem d_S_run_42 : decode b_S_run 42 = .ok (.iload_n 1, 1) := by decide +kernel
theorem d_S_run_43 : decode b_S_run 43 = .ok (.invokevirtual 117, 3) := by decide +kernel
theorem d_S_run_46 : decode b_S_run 46 = .ok (.istore_n 2, 1) := by decide +kernel
theorem d_S_run_47 : decode b_S_run 47 = .ok (.iload_n 2, 1) := by decide +kernel
theorem d_S_run_48 : decode b_S_run 48 = .ok (.iconst (-1), 1) := by decide +kernel
theorem d_S_run_49 : decode b_S_run 49 = .ok (.if_icmp .eq 11, 3) := by decide +kernel
theorem d_S_run_52 : decode b_S_run 52 = .ok (.aload_n 0, 1) := by decide +kernel
theorem d_S_run_53 : decode b_S_run 53 = .ok (.iload_n 1, 1) := by decide +kernel
theorem d_S_run_54 : decode b_S_run 54 = .ok (.iconst 1, 1) := by decide +kernel
theorem d_S_run_55 : decode b_S_run 55 = .ok (.iload_n 2, 1) := by decide +kernel
theorem d_S_run_56 : decode b_S_run 56 = .ok (.ishl, 1) := by decide +kernel
theorem d_S_run_57 : decode b_S_run 57 = .ok (.invokevirtual 121, 3) := by decide +kernel
theorem d_S_run_60 : decode b_S_run 60 = .ok (.iinc 1 1, 3) := by decide +kernel
theorem d_S_run_63 : decode b_S_run 63 = .ok (.goto (-36), 3) := by decide +kernel
theorem d_S_run_66 : decode b_S_run 66 = .ok (.aload_n 0, 1) := by decide +kernel
theorem d_S_run_67 : decode b_S_run 67 = .ok (.getfield 43, 3) := by decide +kernel
theorem d_S_run_70 : decode b_S_run 70 = .ok (.invokevirtual 124, 3) := by decide +kernel
theorem d_S_run_73 : decode b_S_run 73 = .ok (.ireturn, 1) := by decide +kernel
theorem d_S_sum_0 : decode b_S_sum 0 = .ok (.aload_n 0, 1) := by decide +kernel
theorem d_S_sum_1 : decode b_S_sum 1 = .ok (.getfield 43, 3) := by decide +kernel
theorem d_S_sum_4 : decode b_S_sum 4 = .ok (.invokevirtual 127, 3) := by decide +kernel
theorem d_S_sum_7 : decode b_S_sum 7 = .ok (.ireturn, 1) := by decide +kernel
theorem d_S_refuseNegative_0 : decode b_S_refuseNegative 0 = .ok (.iload_n 0, 1) := by decide +kernel
theorem d_S_refuseNegative_1 : decode b_S_refuseNegative 1 = .ok (.ifCond .ge 13, 3) := by decide +kernel
theorem d_S_refuseNegative_4 : decode b_S_refuseNegative 4 = .ok (.new 130, 3) := by decide +kernel
theorem d_S_refuseNegative_7 : decode b_S_refuseNegative 7 = .ok (.dup, 1) := by decide +kernel
theorem d_S_refuseNegative_8 : decode b_S_refuseNegative 8 = .ok (.ldc 232, 2) := by decide +kernel
theorem d_S_refuseNegative_10 : decode b_S_refuseNegative 10 = .ok (.invokespecial 134, 3) := by decide +kernel
theorem d_S_refuseNegative_13 : decode b_S_refuseNegative 13 = .ok (.athrow, 1) := by decide +kernel
theorem d_S_refuseNegative_14 : decode b_S_refuseNegative 14 = .ok (.return_, 1) := by decide +kernel
theorem d_S_refuseBoard_0 : decode b_S_refuseBoard 0 = .ok (.iload_n 1, 1) := by decide +kernel
theorem d_S_refuseBoard_1 : decode b_S_refuseBoard 1 = .ok (.iconst 1, 1) := by decide +kernel
theorem d_S_refuseBoard_2 : decode b_S_refuseBoard 2 = .ok (.sipush 1000, 3) := by decide +kernel
theorem d_S_refuseBoard_5 : decode b_S_refuseBoard 5 = .ok (.invokestatic 70, 3) := by decide +kernel
theorem d_S_refuseBoard_8 : decode b_S_refuseBoard 8 = .ok (.ifCond .eq 25, 3) := by decide +kernel
theorem d_S_refuseBoard_11 : decode b_S_refuseBoard 11 = .ok (.iload_n 2, 1) := by decide +kernel
theorem d_S_refuseBoard_12 : decode b_S_refuseBoard 12 = .ok (.iconst 1, 1) := by decide +kernel
theorem d_S_refuseBoard_13 : decode b_S_refuseBoard 13 = .ok (.sipush 1000, 3) := by decide +kernel
theorem d_S_refuseBoard_16 : decode b_S_refuseBoard 16 = .ok (.invokestatic 70, 3) := by decide +kernel
theorem d_S_refuseBoard_19 : decode b_S_refuseBoard 19 = .ok (.ifCond .eq 14, 3) := by decide +kernel
theorem d_S_refuseBoard_22 : decode b_S_refuseBoard 22 = .ok (.iload_n 3, 1) := by decide +kernel
theorem d_S_refuseBoard_23 : decode b_S_refuseBoard 23 = .ok (.iconst 1, 1) := by decide +kernel
theorem d_S_refuseBoard_24 : decode b_S_refuseBoard 24 = .ok (.sipush 1000, 3) := by decide +kernel
theorem d_S_refuseBoard_27 : decode b_S_refuseBoard 27 = .ok (.invokestatic 70, 3) := by decide +kernel
theorem d_S_refuseBoard_30 : decode b_S_refuseBoard 30 = .ok (.ifCond .ne 13, 3) := by decide +kernel
theorem d_S_refuseBoard_33 : decode b_S_refuseBoard 33 = .ok (.new 74, 3) := by decide +kernel
theorem d_S_refuseBoard_36 : decode b_S_refuseBoard 36 = .ok (.dup, 1) := by decide +kernel
theorem d_S_refuseBoard_37 : decode b_S_refuseBoard 37 = .ok (.ldc 216, 2) := by decide +kernel
theorem d_S_refuseBoard_39 : decode b_S_refuseBoard 39 = .ok (.invokespecial 78, 3) := by decide +kernel
theorem d_S_refuseBoard_42 : decode b_S_refuseBoard 42 = .ok (.athrow, 1) := by decide +kernel
theorem d_S_refuseBoard_43 : decode b_S_refuseBoard 43 = .ok (.iload 4, 2) := by decide +kernel
theorem d_S_refuseBoard_45 : decode b_S_refuseBoard 45 = .ok (.iconst 0, 1) := by decide +kernel
theorem d_S_refuseBoard_46 : decode b_S_refuseBoard 46 = .ok (.bipush 7, 2) := by decide +kernel
theorem d_S_refuseBoard_48 : decode b_S_refuseBoard 48 = .ok (.invokestatic 70, 3) := by decide +kernel
theorem d_S_refuseBoard_51 : decode b_S_refuseBoard 51 = .ok (.ifCond .ne 13, 3) := by decide +kernel
theorem d_S_refuseBoard_54 : decode b_S_refuseBoard 54 = .ok (.new 74, 3) := by decide +kernel
theorem d_S_refuseBoard_57 : decode b_S_refuseBoard 57 = .ok (.dup, 1) := by decide +kernel
theorem d_S_refuseBoard_58 : decode b_S_refuseBoard 58 = .ok (.ldc 218, 2) := by decide +kernel
theorem d_S_refuseBoard_60 : decode b_S_refuseBoard 60 = .ok (.invokespecial 78, 3) := by decide +kernel
theorem d_S_refuseBoard_63 : decode b_S_refuseBoard 63 = .ok (.athrow, 1) := by decide +kernel
theorem d_S_refuseBoard_64 : decode b_S_refuseBoard 64 = .ok (.aload_n 0, 1) := by decide +kernel
theorem d_S_refuseBoard_65 : decode b_S_refuseBoard 65 = .ok (.invokevirtual 220, 3) := by decide +kernel
theorem d_S_refuseBoard_68 : decode b_S_refuseBoard 68 = .ok (.ifCond .eq 13, 3) := by decide +kernel
theorem d_S_refuseBoard_71 : decode b_S_refuseBoard 71 = .ok (.new 223, 3) := by decide +kernel
theorem d_S_refuseBoard_74 : decode b_S_refuseBoard 74 = .ok (.dup, 1) := by decide +kernel
theorem d_S_refuseBoard_75 : decode b_S_refuseBoard 75 = .ok (.ldc 225, 2) := by decide +kernel
theorem d_S_refuseBoard_77 : decode b_S_refuseBoard 77 = .ok (.invokespecial 227, 3) := by decide +kernel
theorem d_S_refuseBoard_80 : decode b_S_refuseBoard 80 = .ok (.athrow, 1) := by decide +kernel
theorem d_S_refuseBoard_81 : decode b_S_refuseBoard 81 = .ok (.return_, 1) := by decide +kernel
theorem d_S_refuseUnknownPiece_0 : decode b_S_refuseUnknownPiece 0 = .ok (.aload_n 0, 1) := by decide +kernel
theorem d_S_refuseUnknownPiece_1 : decode b_S_refuseUnknownPiece 1 = .ok (.getfield 10, 3) := by decide +kernel
theorem d_S_refuseUnknownPiece_4 : decode b_S_refuseUnknownPiece 4 = .ok (.iload_n 1, 1) := by decide +kernel
theorem d_S_refuseUnknownPiece_5 : decode b_S_refuseUnknownPiece 5 = .ok (.invokevirtual 135, 3) := by decide +kernel
theorem d_S_refuseUnknownPiece_8 : decode b_S_refuseUnknownPiece 8 = .ok (.ifCond .ne 13, 3) := by decide +kernel
theorem d_S_refuseUnknownPiece_11 : decode b_S_refuseUnknownPiece 11 = .ok (.new 130, 3) := by decide +kernel
theorem d_S_refuseUnknownPiece_14 : decode b_S_refuseUnknownPiece 14 = .ok (.dup, 1) := by decide +kernel
theorem d_S_refuseUnknownPiece_15 : decode b_S_refuseUnknownPiece 15 = .ok (.ldc 228, 2) := by decide +kernel
theorem d_S_refuseUnknownPiece_17 : decode b_S_refuseUnknownPiece 17 = .ok (.invokespecial 134, 3) := by decide +kernel
theorem d_S_refuseUnknownPiece_20 : decode b_S_refuseUnknownPiece 20 = .ok (.athrow, 1) := by decide +kernel
theorem d_S_refuseUnknownPiece_21 : decode b_S_refuseUnknownPiece 21 = .ok (.return_, 1) := by decide +kernel
theorem d_S_refuseUnknownPair_0 : decode b_S_refuseUnknownPair 0 = .ok (.aload_n 0, 1) := by decide +kernel
theorem d_S_refuseUnknownPair_1 : decode b_S_refuseUnknownPair 1 = .ok (.iload_n 1, 1) := by decide +kernel
theorem d_S_refuseUnknownPair_2 : decode b_S_refuseUnknownPair 2 = .ok (.invokevirtual 156, 3) := by decide +kernel
theorem d_S_refuseUnknownPair_5 : decode b_S_refuseUnknownPair 5 = .ok (.aload_n 0, 1) := by decide +kernel
theorem d_S_refuseUnknownPair_6 : decode b_S_refuseUnknownPair 6 = .ok (.getfield 16, 3) := by decide +kernel
theorem d_S_refuseUnknownPair_9 : decode b_S_refuseUnknownPair 9 = .ok (.iload_n 2, 1) := by decide +kernel
theorem d_S_refuseUnknownPair_10 : decode b_S_refuseUnknownPair 10 = .ok (.invokevirtual 135, 3) := by decide +kernel
theorem d_S_refuseUnknownPair_13 : decode b_S_refuseUnknownPair 13 = .ok (.ifCond .ne 13, 3) := by decide +kernel
theorem d_S_refuseUnknownPair_16 : decode b_S_refuseUnknownPair 16 = .ok (.new 130, 3) := by decide +kernel
theorem d_S_refuseUnknownPair_19 : decode b_S_refuseUnknownPair 19 = .ok (.dup, 1) := by decide +kernel
theorem d_S_refuseUnknownPair_20 : decode b_S_refuseUnknownPair 20 = .ok (.ldc 230, 2) := by decide +kernel
theorem d_S_refuseUnknownPair_22 : decode b_S_refuseUnknownPair 22 = .ok (.invokespecial 134, 3) := by decide +kernel
theorem d_S_refuseUnknownPair_25 : decode b_S_refuseUnknownPair 25 = .ok (.athrow, 1) := by decide +kernel
theorem d_S_refuseUnknownPair_26 : decode b_S_refuseUnknownPair 26 = .ok (.return_, 1) := by decide +kernel
theorem d_S_refuseMisfit_0 : decode b_S_refuseMisfit 0 = .ok (.aload_n 0, 1) := by decide +kernel
theorem d_S_refuseMisfit_1 : decode b_S_refuseMisfit 1 = .ok (.getfield 10, 3) := by decide +kernel
theorem d_S_refuseMisfit_4 : decode b_S_refuseMisfit 4 = .ok (.iload_n 1, 1) := by decide +kernel
theorem d_S_refuseMisfit_5 : decode b_S_refuseMisfit 5 = .ok (.aload_n 0, 1) := by decide +kernel
theorem d_S_refuseMisfit_6 : decode b_S_refuseMisfit 6 = .ok (.getfield 16, 3) := by decide +kernel
theorem d_S_refuseMisfit_9 : decode b_S_refuseMisfit 9 = .ok (.iload_n 2, 1) := by decide +kernel
theorem d_S_refuseMisfit_10 : decode b_S_refuseMisfit 10 = .ok (.invokevirtual 100, 3) := by decide +kernel
theorem d_S_refuseMisfit_13 : decode b_S_refuseMisfit 13 = .ok (.ifCond .ne 13, 3) := by decide +kernel
theorem d_S_refuseMisfit_16 : decode b_S_refuseMisfit 16 = .ok (.new 223, 3) := by decide +kernel
theorem d_S_refuseMisfit_19 : decode b_S_refuseMisfit 19 = .ok (.dup, 1) := by decide +kernel
theorem d_S_refuseMisfit_20 : decode b_S_refuseMisfit 20 = .ok (.ldc 234, 2) := by decide +kernel
theorem d_S_refuseMisfit_22 : decode b_S_refuseMisfit 22 = .ok (.invokespecial 227, 3) := by decide +kernel
theorem d_S_refuseMisfit_25 : decode b_S_refuseMisfit 25 = .ok (.athrow, 1) := by decide +kernel
theorem d_S_refuseMisfit_26 : decode b_S_refuseMisfit 26 = .ok (.return_, 1) := by decide +kernel
def w_S_run : List Cond := .code y_S_run b_S_run 3 (some .int) :: W0
theorem q_S_run : y_S_run.cls = R_S ∧ y_S_run.cls ≠ "java/lang/invoke/MethodHandle" ∧ y_S_run.cls ≠ "java/lang/invoke/VarHandle" ∧ (parseMethodDescriptor y_S_run.desc).map (fun d => d.parameters.length) = some 0 := by decide +kernel
def L_S_run_27 (N : Nat) (p_count : Int32) (K : Int32 → (Nat → Int32) → Int32 → (Nat → Int32) → Int32 → (Nat → Int32) → (Nat → Int32) → (Nat → Int32) → (Nat → Int32) → (Nat → Int32) → Int32 → Int32 → Int32 → Int32 → Int32 → Option (Int32 × (Nat → Int32) × Int32 × (Nat → Int32) × Int32 × (Nat → Int32) × (Nat → Int32) × (Nat → Int32) × (Nat → Int32) × (Nat → Int32) × Int32 × Int32 × Int32 × Int32 × Int32)) : Nat → Int32 → (Nat → Int32) → Int32 → (Nat → Int32) → Int32 → (Nat → Int32) → (Nat → Int32) → (Nat → Int32) → (Nat → Int32) → (Nat → Int32) → Int32 → Int32 → Int32 → Int32 → Int32 → Option (Int32 × (Nat → Int32) × Int32 × (Nat → Int32) × Int32 × (Nat → Int32) × (Nat → Int32) × (Nat → Int32) × (Nat → Int32) × (Nat → Int32) × Int32 × Int32 × Int32 × Int32 × Int32)
  | 0, _, _, _, _, _, _, _, _, _, _, _, _, _, _, _ => none
  | n + 1, y1a, u_ordersOfPiecea, u_usedOrdersa, h_orderOfPiecea, h_heldOrdersa, m_gainsa, m_besta, m_chosena, m_pieceDualsa, m_orderDualsa, m_pieceCounta, m_orderCounta, m_pairsa, m_worthSuma, m_upToDatea =>
    ((m_B_size p_count).bind fun r15 =>
    (if r15 ≤ y1a then
      K y1a u_ordersOfPiecea u_usedOrdersa h_orderOfPiecea h_heldOrdersa m_gainsa m_besta m_chosena m_pieceDualsa m_orderDualsa m_pieceCounta m_orderCounta m_pairsa m_worthSuma m_upToDatea
     else
      ((m_M_chosenFor m_chosena y1a).bind fun r16 =>
        (if r16 = (-1) then
          L_S_run_27 N p_count K n (y1a + 1) u_ordersOfPiecea u_usedOrdersa h_orderOfPiecea h_heldOrdersa m_gainsa m_besta m_chosena m_pieceDualsa m_orderDualsa m_pieceCounta m_orderCounta m_pairsa m_worthSuma m_upToDatea
         else
          ((m_S_cutPiece u_ordersOfPiecea u_usedOrdersa h_orderOfPiecea h_heldOrdersa y1a ((1 : Int32) <<< (r16 &&& 31))).bind fun (u18, u19, u20, u21) =>
            L_S_run_27 N p_count K n (y1a + 1) u18 u19 u20 u21 m_gainsa m_besta m_chosena m_pieceDualsa m_orderDualsa m_pieceCounta m_orderCounta m_pairsa m_worthSuma m_upToDatea)))))
def m_S_run (N : Nat) (p_thicks : Nat → Int32) (p_wides : Nat → Int32) (p_lengths : Nat → Int32) (p_grades : Nat → Int32) (p_count : Int32) (o_thicks : Nat → Int32) (o_wides : Nat → Int32) (o_lengths : Nat → Int32) (o_grades : Nat → Int32) (o_count : Int32) (s_cameOn : Nat → Int32) (s_told : Nat → Int32) (u_ordersOfPiece : Nat → Int32) (u_usedOrders : Int32) (h_orderOfPiece : Nat → Int32) (h_heldOrders : Int32) (m_gains : Nat → Int32) (m_best : Nat → Int32) (m_chosen : Nat → Int32) (m_pieceDuals : Nat → Int32) (m_orderDuals : Nat → Int32) (s_today : Int32) (s_cutOff : Int32) (s_agingOff : Int32) : Option (Int32 × (Nat → Int32) × Int32 × (Nat → Int32) × Int32 × (Nat → Int32) × (Nat → Int32) × (Nat → Int32) × (Nat → Int32) × (Nat → Int32) × Int32 × Int32 × Int32 × Int32 × Int32) :=
  ((m_S_offerPairs N p_thicks p_wides p_lengths p_grades p_count o_thicks o_wides o_lengths o_grades o_count s_cameOn s_told u_ordersOfPiece u_usedOrders h_orderOfPiece h_heldOrders m_gains s_today s_cutOff s_agingOff).bind fun u2 =>
  ((m_B_size p_count).bind fun r3 =>
    ((m_B_size o_count).bind fun r4 =>
      ((m_M_solve N u2 m_best m_chosen m_pieceDuals m_orderDuals r3 r4).bind fun (u6, u7, u8, u9, u10, u11, u12, u13, u14) =>
        L_S_run_27 N p_count (fun y1a u_ordersOfPiecea u_usedOrdersa h_orderOfPiecea h_heldOrdersa m_gainsa m_besta m_chosena m_pieceDualsa m_orderDualsa m_pieceCounta m_orderCounta m_pairsa m_worthSuma m_upToDatea =>
          ((m_M_pairCount m_pairsa).bind fun r25 =>
            some (r25, u_ordersOfPiecea, u_usedOrdersa, h_orderOfPiecea, h_heldOrdersa, m_gainsa, m_besta, m_chosena, m_pieceDualsa, m_orderDualsa, m_pieceCounta, m_orderCounta, m_pairsa, m_worthSuma, m_upToDatea))) N 0 u_ordersOfPiece u_usedOrders h_orderOfPiece h_heldOrders u2 u6 u7 u8 u9 u10 u11 u12 u13 u14))))
set_option maxHeartbeats 4000000 in
set_option maxRecDepth 100000 in
theorem c_S_run (l : Launch) (dC : Nat → ClassId) (dI : Nat → Nat → Nat) (cI : ClassId) (sq pq pq1 pq2 pq3 pq4 oq oq1 oq2 oq3 oq4 sq3 sq4 uq uq1 hq hq1 hq2 mq mq1 mq2 mq3 mq4 mq5 : Nat) (sz : Nat) (p_thicks : Nat → Int32) (p_wides : Nat → Int32) (p_lengths : Nat → Int32) (p_grades : Nat → Int32) (p_count : Int32) (o_thicks : Nat → Int32) (o_wides : Nat → Int32) (o_lengths : Nat → Int32) (o_grades : Nat → Int32) (o_count : Int32) (s_cameOn : Nat → Int32) (s_told : Nat → Int32) (u_ordersOfPiece : Nat → Int32) (u_usedOrders : Int32) (h_orderOfPiece : Nat → Int32) (h_lastDay : Nat → Int32) (h_heldOrders : Int32) (m_gains : Nat → Int32) (m_best : Nat → Int32) (m_chosen : Nat → Int32) (m_pieceDuals : Nat → Int32) (m_orderDuals : Nat → Int32) (m_pieceCount : Int32) (m_orderCount : Int32) (m_pairs : Int32) (m_worthSum : Int32) (m_upToDate : Int32) (s_today : Int32) (s_cutOff : Int32) (s_agingOff : Int32) (s_saleAge : Int32)  (N : Nat) (res : Int32 × (Nat → Int32) × Int32 × (Nat → Int32) × Int32 × (Nat → Int32) × (Nat → Int32) × (Nat → Int32) × (Nat → Int32) × (Nat → Int32) × Int32 × Int32 × Int32 × Int32 × Int32) (hm : m_S_run N p_thicks p_wides p_lengths p_grades p_count o_thicks o_wides o_lengths o_grades o_count s_cameOn s_told u_ordersOfPiece u_usedOrders h_orderOfPiece h_heldOrders m_gains m_best m_chosen m_pieceDuals m_orderDuals s_today s_cutOff s_agingOff = some res) : Met l y_S_run w_S_run ({ frames := 4, cells := 0, slots := 0, locals := 93 } : Room) (va_Pc [.ref sq] (fun U => U.heap.size = sz ∧ va_P (dC, dI) classes [(sq, .inr (4, [.ref pq, .ref oq, .ref sq3, .ref sq4, .ref uq, .ref hq, .ref mq, .int s_today, .int s_cutOff, .int s_agingOff, .int s_saleAge])), (pq, .inr (0, [.ref pq1, .ref pq2, .ref pq3, .ref pq4, .int p_count])), (pq1, .inl (cI, 10, .inl p_thicks)), (pq2, .inl (cI, 10, .inl p_wides)), (pq3, .inl (cI, 10, .inl p_lengths)), (pq4, .inl (cI, 10, .inl p_grades)), (oq, .inr (0, [.ref oq1, .ref oq2, .ref oq3, .ref oq4, .int o_count])), (oq1, .inl (cI, 10, .inl o_thicks)), (oq2, .inl (cI, 10, .inl o_wides)), (oq3, .inl (cI, 10, .inl o_lengths)), (oq4, .inl (cI, 10, .inl o_grades)), (sq3, .inl (cI, 10, .inl s_cameOn)), (sq4, .inl (cI, 100, .inl s_told)), (uq, .inr (1, [.ref uq1, .int u_usedOrders])), (uq1, .inl (cI, 10, .inl u_ordersOfPiece)), (hq, .inr (2, [.ref hq1, .ref hq2, .int h_heldOrders])), (hq1, .inl (cI, 10, .inl h_orderOfPiece)), (hq2, .inl (cI, 10, .inl h_lastDay)), (mq, .inr (3, [.ref mq1, .ref mq2, .ref mq3, .ref mq4, .ref mq5, .int m_pieceCount, .int m_orderCount, .int m_pairs, .int m_worthSum, .int m_upToDate])), (mq1, .inl (cI, 100, .inl m_gains)), (mq2, .inl (cI, 11264, .inl m_best)), (mq3, .inl (cI, 10, .inl m_chosen)), (mq4, .inl (cI, 10, .inl m_pieceDuals)), (mq5, .inl (cI, 10, .inl m_orderDuals))] U.heap ∧ va_K (dC, dI) classes [(cI, .int)] U ∧ va_D (fun _ => True) [(sq, .inr (4, [.ref pq, .ref oq, .ref sq3, .ref sq4, .ref uq, .ref hq, .ref mq, .int s_today, .int s_cutOff, .int s_agingOff, .int s_saleAge])), (pq, .inr (0, [.ref pq1, .ref pq2, .ref pq3, .ref pq4, .int p_count])), (pq1, .inl (cI, 10, .inl p_thicks)), (pq2, .inl (cI, 10, .inl p_wides)), (pq3, .inl (cI, 10, .inl p_lengths)), (pq4, .inl (cI, 10, .inl p_grades)), (oq, .inr (0, [.ref oq1, .ref oq2, .ref oq3, .ref oq4, .int o_count])), (oq1, .inl (cI, 10, .inl o_thicks)), (oq2, .inl (cI, 10, .inl o_wides)), (oq3, .inl (cI, 10, .inl o_lengths)), (oq4, .inl (cI, 10, .inl o_grades)), (sq3, .inl (cI, 10, .inl s_cameOn)), (sq4, .inl (cI, 100, .inl s_told)), (uq, .inr (1, [.ref uq1, .int u_usedOrders])), (uq1, .inl (cI, 10, .inl u_ordersOfPiece)), (hq, .inr (2, [.ref hq1, .ref hq2, .int h_heldOrders])), (hq1, .inl (cI, 10, .inl h_orderOfPiece)), (hq2, .inl (cI, 10, .inl h_lastDay)), (mq, .inr (3, [.ref mq1, .ref mq2, .ref mq3, .ref mq4, .ref mq5, .int m_pieceCount, .int m_orderCount, .int m_pairs, .int m_worthSum, .int m_upToDate])), (mq1, .inl (cI, 100, .inl m_gains)), (mq2, .inl (cI, 11264, .inl m_best)), (mq3, .inl (cI, 10, .inl m_chosen)), (mq4, .inl (cI, 10, .inl m_pieceDuals)), (mq5, .inl (cI, 10, .inl m_orderDuals))] ∧ nw U)) (va_Qi (fun (x : Int32) (_ : Unit) => res.1 = x) (fun _ t => va_P (dC, dI) classes [(sq, .inr (4, [.ref pq, .ref oq, .ref sq3, .ref sq4, .ref uq, .ref hq, .ref mq, .int s_today, .int s_cutOff, .int s_agingOff, .int s_saleAge])), (pq, .inr (0, [.ref pq1, .ref pq2, .ref pq3, .ref pq4, .int p_count])), (pq1, .inl (cI, 10, .inl p_thicks)), (pq2, .inl (cI, 10, .inl p_wides)), (pq3, .inl (cI, 10, .inl p_lengths)), (pq4, .inl (cI, 10, .inl p_grades)), (oq, .inr (0, [.ref oq1, .ref oq2, .ref oq3, .ref oq4, .int o_count])), (oq1, .inl (cI, 10, .inl o_thicks)), (oq2, .inl (cI, 10, .inl o_wides)), (oq3, .inl (cI, 10, .inl o_lengths)), (oq4, .inl (cI, 10, .inl o_grades)), (sq3, .inl (cI, 10, .inl s_cameOn)), (sq4, .inl (cI, 100, .inl s_told)), (uq, .inr (1, [.ref uq1, .int res.2.2.1])), (uq1, .inl (cI, 10, .inl res.2.1)), (hq, .inr (2, [.ref hq1, .ref hq2, .int res.2.2.2.2.1])), (hq1, .inl (cI, 10, .inl res.2.2.2.1)), (hq2, .inl (cI, 10, .inl h_lastDay)), (mq, .inr (3, [.ref mq1, .ref mq2, .ref mq3, .ref mq4, .ref mq5, .int res.2.2.2.2.2.2.2.2.2.2.1, .int res.2.2.2.2.2.2.2.2.2.2.2.1, .int res.2.2.2.2.2.2.2.2.2.2.2.2.1, .int res.2.2.2.2.2.2.2.2.2.2.2.2.2.1, .int res.2.2.2.2.2.2.2.2.2.2.2.2.2.2])), (mq1, .inl (cI, 100, .inl res.2.2.2.2.2.1)), (mq2, .inl (cI, 11264, .inl res.2.2.2.2.2.2.1)), (mq3, .inl (cI, 10, .inl res.2.2.2.2.2.2.2.1)), (mq4, .inl (cI, 10, .inl res.2.2.2.2.2.2.2.2.1)), (mq5, .inl (cI, 10, .inl res.2.2.2.2.2.2.2.2.2.1))] t.heap ∧ va_K (dC, dI) classes [(cI, .int)] t ∧ va_D (va_A [(sq, .inr (4, [.ref pq, .ref oq, .ref sq3, .ref sq4, .ref uq, .ref hq, .ref mq, .int s_today, .int s_cutOff, .int s_agingOff, .int s_saleAge])), (pq, .inr (0, [.ref pq1, .ref pq2, .ref pq3, .ref pq4, .int p_count])), (pq1, .inl (cI, 10, .inl p_thicks)), (pq2, .inl (cI, 10, .inl p_wides)), (pq3, .inl (cI, 10, .inl p_lengths)), (pq4, .inl (cI, 10, .inl p_grades)), (oq, .inr (0, [.ref oq1, .ref oq2, .ref oq3, .ref oq4, .int o_count])), (oq1, .inl (cI, 10, .inl o_thicks)), (oq2, .inl (cI, 10, .inl o_wides)), (oq3, .inl (cI, 10, .inl o_lengths)), (oq4, .inl (cI, 10, .inl o_grades)), (sq3, .inl (cI, 10, .inl s_cameOn)), (sq4, .inl (cI, 100, .inl s_told)), (uq, .inr (1, [.ref uq1, .int u_usedOrders])), (uq1, .inl (cI, 10, .inl u_ordersOfPiece)), (hq, .inr (2, [.ref hq1, .ref hq2, .int h_heldOrders])), (hq1, .inl (cI, 10, .inl h_orderOfPiece)), (hq2, .inl (cI, 10, .inl h_lastDay)), (mq, .inr (3, [.ref mq1, .ref mq2, .ref mq3, .ref mq4, .ref mq5, .int m_pieceCount, .int m_orderCount, .int m_pairs, .int m_worthSum, .int m_upToDate])), (mq1, .inl (cI, 100, .inl m_gains)), (mq2, .inl (cI, 11264, .inl m_best)), (mq3, .inl (cI, 10, .inl m_chosen)), (mq4, .inl (cI, 10, .inl m_pieceDuals)), (mq5, .inl (cI, 10, .inl m_orderDuals))] sz) [(sq, .inr (4, [.ref pq, .ref oq, .ref sq3, .ref sq4, .ref uq, .ref hq, .ref mq, .int s_today, .int s_cutOff, .int s_agingOff, .int s_saleAge])), (pq, .inr (0, [.ref pq1, .ref pq2, .ref pq3, .ref pq4, .int p_count])), (pq1, .inl (cI, 10, .inl p_thicks)), (pq2, .inl (cI, 10, .inl p_wides)), (pq3, .inl (cI, 10, .inl p_lengths)), (pq4, .inl (cI, 10, .inl p_grades)), (oq, .inr (0, [.ref oq1, .ref oq2, .ref oq3, .ref oq4, .int o_count])), (oq1, .inl (cI, 10, .inl o_thicks)), (oq2, .inl (cI, 10, .inl o_wides)), (oq3, .inl (cI, 10, .inl o_lengths)), (oq4, .inl (cI, 10, .inl o_grades)), (sq3, .inl (cI, 10, .inl s_cameOn)), (sq4, .inl (cI, 100, .inl s_told)), (uq, .inr (1, [.ref uq1, .int res.2.2.1])), (uq1, .inl (cI, 10, .inl res.2.1)), (hq, .inr (2, [.ref hq1, .ref hq2, .int res.2.2.2.2.1])), (hq1, .inl (cI, 10, .inl res.2.2.2.1)), (hq2, .inl (cI, 10, .inl h_lastDay)), (mq, .inr (3, [.ref mq1, .ref mq2, .ref mq3, .ref mq4, .ref mq5, .int res.2.2.2.2.2.2.2.2.2.2.1, .int res.2.2.2.2.2.2.2.2.2.2.2.1, .int res.2.2.2.2.2.2.2.2.2.2.2.2.1, .int res.2.2.2.2.2.2.2.2.2.2.2.2.2.1, .int res.2.2.2.2.2.2.2.2.2.2.2.2.2.2])), (mq1, .inl (cI, 100, .inl res.2.2.2.2.2.1)), (mq2, .inl (cI, 11264, .inl res.2.2.2.2.2.2.1)), (mq3, .inl (cI, 10, .inl res.2.2.2.2.2.2.2.1)), (mq4, .inl (cI, 10, .inl res.2.2.2.2.2.2.2.2.1)), (mq5, .inl (cI, 10, .inl res.2.2.2.2.2.2.2.2.2.1))]) (va_A [(sq, .inr (4, [.ref pq, .ref oq, .ref sq3, .ref sq4, .ref uq, .ref hq, .ref mq, .int s_today, .int s_cutOff, .int s_agingOff, .int s_saleAge])), (pq, .inr (0, [.ref pq1, .ref pq2, .ref pq3, .ref pq4, .int p_count])), (pq1, .inl (cI, 10, .inl p_thicks)), (pq2, .inl (cI, 10, .inl p_wides)), (pq3, .inl (cI, 10, .inl p_lengths)), (pq4, .inl (cI, 10, .inl p_grades)), (oq, .inr (0, [.ref oq1, .ref oq2, .ref oq3, .ref oq4, .int o_count])), (oq1, .inl (cI, 10, .inl o_thicks)), (oq2, .inl (cI, 10, .inl o_wides)), (oq3, .inl (cI, 10, .inl o_lengths)), (oq4, .inl (cI, 10, .inl o_grades)), (sq3, .inl (cI, 10, .inl s_cameOn)), (sq4, .inl (cI, 100, .inl s_told)), (uq, .inr (1, [.ref uq1, .int u_usedOrders])), (uq1, .inl (cI, 10, .inl u_ordersOfPiece)), (hq, .inr (2, [.ref hq1, .ref hq2, .int h_heldOrders])), (hq1, .inl (cI, 10, .inl h_orderOfPiece)), (hq2, .inl (cI, 10, .inl h_lastDay)), (mq, .inr (3, [.ref mq1, .ref mq2, .ref mq3, .ref mq4, .ref mq5, .int m_pieceCount, .int m_orderCount, .int m_pairs, .int m_worthSum, .int m_upToDate])), (mq1, .inl (cI, 100, .inl m_gains)), (mq2, .inl (cI, 11264, .inl m_best)), (mq3, .inl (cI, 10, .inl m_chosen)), (mq4, .inl (cI, 10, .inl m_pieceDuals)), (mq5, .inl (cI, 10, .inl m_orderDuals))] sz)) 0 0 (va_A [(sq, .inr (4, [.ref pq, .ref oq, .ref sq3, .ref sq4, .ref uq, .ref hq, .ref mq, .int s_today, .int s_cutOff, .int s_agingOff, .int s_saleAge])), (pq, .inr (0, [.ref pq1, .ref pq2, .ref pq3, .ref pq4, .int p_count])), (pq1, .inl (cI, 10, .inl p_thicks)), (pq2, .inl (cI, 10, .inl p_wides)), (pq3, .inl (cI, 10, .inl p_lengths)), (pq4, .inl (cI, 10, .inl p_grades)), (oq, .inr (0, [.ref oq1, .ref oq2, .ref oq3, .ref oq4, .int o_count])), (oq1, .inl (cI, 10, .inl o_thicks)), (oq2, .inl (cI, 10, .inl o_wides)), (oq3, .inl (cI, 10, .inl o_lengths)), (oq4, .inl (cI, 10, .inl o_grades)), (sq3, .inl (cI, 10, .inl s_cameOn)), (sq4, .inl (cI, 100, .inl s_told)), (uq, .inr (1, [.ref uq1, .int u_usedOrders])), (uq1, .inl (cI, 10, .inl u_ordersOfPiece)), (hq, .inr (2, [.ref hq1, .ref hq2, .int h_heldOrders])), (hq1, .inl (cI, 10, .inl h_orderOfPiece)), (hq2, .inl (cI, 10, .inl h_lastDay)), (mq, .inr (3, [.ref mq1, .ref mq2, .ref mq3, .ref mq4, .ref mq5, .int m_pieceCount, .int m_orderCount, .int m_pairs, .int m_worthSum, .int m_upToDate])), (mq1, .inl (cI, 100, .inl m_gains)), (mq2, .inl (cI, 11264, .inl m_best)), (mq3, .inl (cI, 10, .inl m_chosen)), (mq4, .inl (cI, 10, .inl m_pieceDuals)), (mq5, .inl (cI, 10, .inl m_orderDuals))] sz) := by
  unfold m_S_run at hm
  refine Met.ofW (cc := b_S_run) (maxL := 3) (ret := (some .int)) (by decide) rfl ?_
  intro p e s m args below meth c s₁ B hml hv
  obtain ⟨rfl, hsz, hP, hK, hD0, hN⟩ := hv
  have hx := B.exec
  have hb := B.bytes
  have hr := B.returns
  have hts := atoms_spec (ws := w_S_run) B.pre
  have hown : s.vm.findClass R_S = some m.cls := findClass_of_methodNamed B.named
  have hlocks := B.notSynchronized
  subst hsz
  have hD := hD0.self (sz := s.heap.size)
  generalize hAe : va_A [(sq, .inr (4, [.ref pq, .ref oq, .ref sq3, .ref sq4, .ref uq, .ref hq, .ref mq, .int s_today, .int s_cutOff, .int s_agingOff, .int s_saleAge])), (pq, .inr (0, [.ref pq1, .ref pq2, .ref pq3, .ref pq4, .int p_count])), (pq1, .inl (cI, 10, .inl p_thicks)), (pq2, .inl (cI, 10, .inl p_wides)), (pq3, .inl (cI, 10, .inl p_lengths)), (pq4, .inl (cI, 10, .inl p_grades)), (oq, .inr (0, [.ref oq1, .ref oq2, .ref oq3, .ref oq4, .int o_count])), (oq1, .inl (cI, 10, .inl o_thicks)), (oq2, .inl (cI, 10, .inl o_wides)), (oq3, .inl (cI, 10, .inl o_lengths)), (oq4, .inl (cI, 10, .inl o_grades)), (sq3, .inl (cI, 10, .inl s_cameOn)), (sq4, .inl (cI, 100, .inl s_told)), (uq, .inr (1, [.ref uq1, .int u_usedOrders])), (uq1, .inl (cI, 10, .inl u_ordersOfPiece)), (hq, .inr (2, [.ref hq1, .ref hq2, .int h_heldOrders])), (hq1, .inl (cI, 10, .inl h_orderOfPiece)), (hq2, .inl (cI, 10, .inl h_lastDay)), (mq, .inr (3, [.ref mq1, .ref mq2, .ref mq3, .ref mq4, .ref mq5, .int m_pieceCount, .int m_orderCount, .int m_pairs, .int m_worthSum, .int m_upToDate])), (mq1, .inl (cI, 100, .inl m_gains)), (mq2, .inl (cI, 11264, .inl m_best)), (mq3, .inl (cI, 10, .inl m_chosen)), (mq4, .inl (cI, 10, .inl m_pieceDuals)), (mq5, .inl (cI, 10, .inl m_orderDuals))] s.heap.size = A at hD ⊢
  have hA : ∀ q : Nat, s.heap.size ≤ q → A q := fun q h => by rw [← hAe]; exact Or.inr h
  have hS : va_S A s.heap s.heap [] := va_S.rf
  have hk0 := hts (.fieldLink R_S 43 "SurplusMatch" "matching" "LSurplusMatch$Matching;") (List.mem_cons_of_mem _ (w0 147 rfl))
  have hk1 : ∀ w ∈ w_S, w ∈ w_S_run := fun w h => List.mem_cons_of_mem _ (i_S w h)
  have hk2 := hts (.fieldLink R_S 10 "SurplusMatch" "pieces" "LSurplusMatch$Boards;") (List.mem_cons_of_mem _ (w0 141 rfl))
  have hk3 := hts (.fieldLink R_S 16 "SurplusMatch" "orders" "LSurplusMatch$Boards;") (List.mem_cons_of_mem _ (w0 142 rfl))
  have hl := lv_entry ([.ref sq]) (n := 3) (Nat.le_of_ble_eq_true rfl)
  rw [lg_entry_eq]
  generalize (lg_sl ([.ref sq]) ++ List.replicate (3 - (lg_sl ([.ref sq])).length) Slot.unset).toArray = ls at hl ⊢
  have hl : lv_has ls 3 [(0, .ref sq)] := hl
  refine lv_aload_n hx hb d_S_run_0 rfl (lv_at hl 0 rfl) ?_
  obtain ⟨u2, hc, hm⟩ := bd hm
  try dsimp only at hm
  have hPc := hP.sub (ws' := [(sq, .inr (4, [.ref pq, .ref oq, .ref sq3, .ref sq4, .ref uq, .ref hq, .ref mq, .int s_today, .int s_cutOff, .int s_agingOff, .int s_saleAge])), (pq, .inr (0, [.ref pq1, .ref pq2, .ref pq3, .ref pq4, .int p_count])), (pq1, .inl (cI, 10, .inl p_thicks)), (pq2, .inl (cI, 10, .inl p_wides)), (pq3, .inl (cI, 10, .inl p_lengths)), (pq4, .inl (cI, 10, .inl p_grades)), (oq, .inr (0, [.ref oq1, .ref oq2, .ref oq3, .ref oq4, .int o_count])), (oq1, .inl (cI, 10, .inl o_thicks)), (oq2, .inl (cI, 10, .inl o_wides)), (oq3, .inl (cI, 10, .inl o_lengths)), (oq4, .inl (cI, 10, .inl o_grades)), (sq3, .inl (cI, 10, .inl s_cameOn)), (sq4, .inl (cI, 100, .inl s_told)), (uq, .inr (1, [.ref uq1, .int u_usedOrders])), (uq1, .inl (cI, 10, .inl u_ordersOfPiece)), (hq, .inr (2, [.ref hq1, .ref hq2, .int h_heldOrders])), (hq1, .inl (cI, 10, .inl h_orderOfPiece)), (hq2, .inl (cI, 10, .inl h_lastDay)), (mq, .inr (3, [.ref mq1, .ref mq2, .ref mq3, .ref mq4, .ref mq5, .int m_pieceCount, .int m_orderCount, .int m_pairs, .int m_worthSum, .int m_upToDate])), (mq1, .inl (cI, 100, .inl m_gains)), (mq2, .inl (cI, 11264, .inl m_best)), (mq3, .inl (cI, 10, .inl m_chosen)), (mq4, .inl (cI, 10, .inl m_pieceDuals)), (mq5, .inl (cI, 10, .inl m_orderDuals))]) [0, 1, 2, 3, 4, 5, 6, 7, 8, 9, 10, 11, 12, 13, 14, 15, 16, 17, 18, 19, 20, 21, 22, 23] rfl
  have hDc := hD.sub (ws' := [(sq, .inr (4, [.ref pq, .ref oq, .ref sq3, .ref sq4, .ref uq, .ref hq, .ref mq, .int s_today, .int s_cutOff, .int s_agingOff, .int s_saleAge])), (pq, .inr (0, [.ref pq1, .ref pq2, .ref pq3, .ref pq4, .int p_count])), (pq1, .inl (cI, 10, .inl p_thicks)), (pq2, .inl (cI, 10, .inl p_wides)), (pq3, .inl (cI, 10, .inl p_lengths)), (pq4, .inl (cI, 10, .inl p_grades)), (oq, .inr (0, [.ref oq1, .ref oq2, .ref oq3, .ref oq4, .int o_count])), (oq1, .inl (cI, 10, .inl o_thicks)), (oq2, .inl (cI, 10, .inl o_wides)), (oq3, .inl (cI, 10, .inl o_lengths)), (oq4, .inl (cI, 10, .inl o_grades)), (sq3, .inl (cI, 10, .inl s_cameOn)), (sq4, .inl (cI, 100, .inl s_told)), (uq, .inr (1, [.ref uq1, .int u_usedOrders])), (uq1, .inl (cI, 10, .inl u_ordersOfPiece)), (hq, .inr (2, [.ref hq1, .ref hq2, .int h_heldOrders])), (hq1, .inl (cI, 10, .inl h_orderOfPiece)), (hq2, .inl (cI, 10, .inl h_lastDay)), (mq, .inr (3, [.ref mq1, .ref mq2, .ref mq3, .ref mq4, .ref mq5, .int m_pieceCount, .int m_orderCount, .int m_pairs, .int m_worthSum, .int m_upToDate])), (mq1, .inl (cI, 100, .inl m_gains)), (mq2, .inl (cI, 11264, .inl m_best)), (mq3, .inl (cI, 10, .inl m_chosen)), (mq4, .inl (cI, 10, .inl m_pieceDuals)), (mq5, .inl (cI, 10, .inl m_orderDuals))]) [0, 1, 2, 3, 4, 5, 6, 7, 8, 9, 10, 11, 12, 13, 14, 15, 16, 17, 18, 19, 20, 21, 22, 23] (by decide) rfl
  have hFc := va_free (wc := [(sq, .inr (4, [.ref pq, .ref oq, .ref sq3, .ref sq4, .ref uq, .ref hq, .ref mq, .int s_today, .int s_cutOff, .int s_agingOff, .int s_saleAge])), (pq, .inr (0, [.ref pq1, .ref pq2, .ref pq3, .ref pq4, .int p_count])), (pq1, .inl (cI, 10, .inl p_thicks)), (pq2, .inl (cI, 10, .inl p_wides)), (pq3, .inl (cI, 10, .inl p_lengths)), (pq4, .inl (cI, 10, .inl p_grades)), (oq, .inr (0, [.ref oq1, .ref oq2, .ref oq3, .ref oq4, .int o_count])), (oq1, .inl (cI, 10, .inl o_thicks)), (oq2, .inl (cI, 10, .inl o_wides)), (oq3, .inl (cI, 10, .inl o_lengths)), (oq4, .inl (cI, 10, .inl o_grades)), (sq3, .inl (cI, 10, .inl s_cameOn)), (sq4, .inl (cI, 100, .inl s_told)), (uq, .inr (1, [.ref uq1, .int u_usedOrders])), (uq1, .inl (cI, 10, .inl u_ordersOfPiece)), (hq, .inr (2, [.ref hq1, .ref hq2, .int h_heldOrders])), (hq1, .inl (cI, 10, .inl h_orderOfPiece)), (hq2, .inl (cI, 10, .inl h_lastDay)), (mq, .inr (3, [.ref mq1, .ref mq2, .ref mq3, .ref mq4, .ref mq5, .int m_pieceCount, .int m_orderCount, .int m_pairs, .int m_worthSum, .int m_upToDate])), (mq1, .inl (cI, 100, .inl m_gains)), (mq2, .inl (cI, 11264, .inl m_best)), (mq3, .inl (cI, 10, .inl m_chosen)), (mq4, .inl (cI, 10, .inl m_pieceDuals)), (mq5, .inl (cI, 10, .inl m_orderDuals))]) hD hS hA [0, 1, 2, 3, 4, 5, 6, 7, 8, 9, 10, 11, 12, 13, 14, 15, 16, 17, 18, 19, 20, 21, 22, 23] rfl
  refine va_callv (va_runV (As := []) (rest := []) ⟨hx, hb, hml, hown, hts⟩ (c_S_offerPairs l dC dI cI sq pq pq1 pq2 pq3 pq4 oq oq1 oq2 oq3 oq4 sq3 sq4 uq uq1 hq hq1 hq2 mq mq1 mq2 mq3 mq4 mq5 s.heap.size p_thicks p_wides p_lengths p_grades p_count o_thicks o_wides o_lengths o_grades o_count s_cameOn s_told u_ordersOfPiece u_usedOrders h_orderOfPiece h_lastDay h_heldOrders m_gains m_best m_chosen m_pieceDuals m_orderDuals m_pieceCount m_orderCount m_pairs m_worthSum m_upToDate s_today s_cutOff s_agingOff s_saleAge  N u2 hc) (cwV 0 hts (gV (w0 179 rfl) (w0 180 rfl) (w0 0 rfl) (w0 28 rfl) (w0 181 rfl)) rfl rfl rfl q_S_offerPairs ⟨Nat.le_of_ble_eq_true rfl, Nat.le_of_ble_eq_true rfl⟩) (wr_preV hK hPc hDc hN 4 0 (R_S, F_S, 11) rfl rfl) rfl rfl hl.1 rfl (lv_room (Nat.le_of_ble_eq_true rfl)) d_S_run_1 ⟨Nat.le_of_ble_eq_true rfl, Nat.le_of_ble_eq_true rfl⟩) hS (fun q _ h => hFc q h) hFc (fun u t H1 locs ht hvm hw hB hz1 hk1 hS => ?_)
  obtain ⟨hP1, hK1, hD1⟩ := hB
  rw [ht] at hP1
  obtain ⟨hP, hD⟩ := va_join (wr := []) (w1 := [(sq, .inr (4, [.ref pq, .ref oq, .ref sq3, .ref sq4, .ref uq, .ref hq, .ref mq, .int s_today, .int s_cutOff, .int s_agingOff, .int s_saleAge])), (pq, .inr (0, [.ref pq1, .ref pq2, .ref pq3, .ref pq4, .int p_count])), (pq1, .inl (cI, 10, .inl p_thicks)), (pq2, .inl (cI, 10, .inl p_wides)), (pq3, .inl (cI, 10, .inl p_lengths)), (pq4, .inl (cI, 10, .inl p_grades)), (oq, .inr (0, [.ref oq1, .ref oq2, .ref oq3, .ref oq4, .int o_count])), (oq1, .inl (cI, 10, .inl o_thicks)), (oq2, .inl (cI, 10, .inl o_wides)), (oq3, .inl (cI, 10, .inl o_lengths)), (oq4, .inl (cI, 10, .inl o_grades)), (sq3, .inl (cI, 10, .inl s_cameOn)), (sq4, .inl (cI, 100, .inl s_told)), (uq, .inr (1, [.ref uq1, .int u_usedOrders])), (uq1, .inl (cI, 10, .inl u_ordersOfPiece)), (hq, .inr (2, [.ref hq1, .ref hq2, .int h_heldOrders])), (hq1, .inl (cI, 10, .inl h_orderOfPiece)), (hq2, .inl (cI, 10, .inl h_lastDay)), (mq, .inr (3, [.ref mq1, .ref mq2, .ref mq3, .ref mq4, .ref mq5, .int m_pieceCount, .int m_orderCount, .int m_pairs, .int m_worthSum, .int m_upToDate])), (mq1, .inl (cI, 100, .inl u2)), (mq2, .inl (cI, 11264, .inl m_best)), (mq3, .inl (cI, 10, .inl m_chosen)), (mq4, .inl (cI, 10, .inl m_pieceDuals)), (mq5, .inl (cI, 10, .inl m_orderDuals))]) hP hD [0, 1, 2, 3, 4, 5, 6, 7, 8, 9, 10, 11, 12, 13, 14, 15, 16, 17, 18, 19, 20, 21, 22, 23] [] rfl rfl (by decide) (by decide) hk1 hFc hP1 hD1
  generalize H1 = H at hP hS ⊢
  have hP : va_P (dC, dI) classes [(sq, .inr (4, [.ref pq, .ref oq, .ref sq3, .ref sq4, .ref uq, .ref hq, .ref mq, .int s_today, .int s_cutOff, .int s_agingOff, .int s_saleAge])), (pq, .inr (0, [.ref pq1, .ref pq2, .ref pq3, .ref pq4, .int p_count])), (pq1, .inl (cI, 10, .inl p_thicks)), (pq2, .inl (cI, 10, .inl p_wides)), (pq3, .inl (cI, 10, .inl p_lengths)), (pq4, .inl (cI, 10, .inl p_grades)), (oq, .inr (0, [.ref oq1, .ref oq2, .ref oq3, .ref oq4, .int o_count])), (oq1, .inl (cI, 10, .inl o_thicks)), (oq2, .inl (cI, 10, .inl o_wides)), (oq3, .inl (cI, 10, .inl o_lengths)), (oq4, .inl (cI, 10, .inl o_grades)), (sq3, .inl (cI, 10, .inl s_cameOn)), (sq4, .inl (cI, 100, .inl s_told)), (uq, .inr (1, [.ref uq1, .int u_usedOrders])), (uq1, .inl (cI, 10, .inl u_ordersOfPiece)), (hq, .inr (2, [.ref hq1, .ref hq2, .int h_heldOrders])), (hq1, .inl (cI, 10, .inl h_orderOfPiece)), (hq2, .inl (cI, 10, .inl h_lastDay)), (mq, .inr (3, [.ref mq1, .ref mq2, .ref mq3, .ref mq4, .ref mq5, .int m_pieceCount, .int m_orderCount, .int m_pairs, .int m_worthSum, .int m_upToDate])), (mq1, .inl (cI, 100, .inl u2)), (mq2, .inl (cI, 11264, .inl m_best)), (mq3, .inl (cI, 10, .inl m_chosen)), (mq4, .inl (cI, 10, .inl m_pieceDuals)), (mq5, .inl (cI, 10, .inl m_orderDuals))] H := hP
  have hD : va_D A [(sq, .inr (4, [.ref pq, .ref oq, .ref sq3, .ref sq4, .ref uq, .ref hq, .ref mq, .int s_today, .int s_cutOff, .int s_agingOff, .int s_saleAge])), (pq, .inr (0, [.ref pq1, .ref pq2, .ref pq3, .ref pq4, .int p_count])), (pq1, .inl (cI, 10, .inl p_thicks)), (pq2, .inl (cI, 10, .inl p_wides)), (pq3, .inl (cI, 10, .inl p_lengths)), (pq4, .inl (cI, 10, .inl p_grades)), (oq, .inr (0, [.ref oq1, .ref oq2, .ref oq3, .ref oq4, .int o_count])), (oq1, .inl (cI, 10, .inl o_thicks)), (oq2, .inl (cI, 10, .inl o_wides)), (oq3, .inl (cI, 10, .inl o_lengths)), (oq4, .inl (cI, 10, .inl o_grades)), (sq3, .inl (cI, 10, .inl s_cameOn)), (sq4, .inl (cI, 100, .inl s_told)), (uq, .inr (1, [.ref uq1, .int u_usedOrders])), (uq1, .inl (cI, 10, .inl u_ordersOfPiece)), (hq, .inr (2, [.ref hq1, .ref hq2, .int h_heldOrders])), (hq1, .inl (cI, 10, .inl h_orderOfPiece)), (hq2, .inl (cI, 10, .inl h_lastDay)), (mq, .inr (3, [.ref mq1, .ref mq2, .ref mq3, .ref mq4, .ref mq5, .int m_pieceCount, .int m_orderCount, .int m_pairs, .int m_worthSum, .int m_upToDate])), (mq1, .inl (cI, 100, .inl u2)), (mq2, .inl (cI, 11264, .inl m_best)), (mq3, .inl (cI, 10, .inl m_chosen)), (mq4, .inl (cI, 10, .inl m_pieceDuals)), (mq5, .inl (cI, 10, .inl m_orderDuals))] := hD
  clear hP1 hD1 hPc hDc hFc hk1 hz1
  refine lv_aload_n hx hb d_S_run_4 rfl (lv_at hl 0 rfl) ?_
  refine va_get (D := (dC, dI)) (ci := 4) (v := .ref mq) (C := R_S) (T := F_S) (N := 11) hx hb hts hk1 hown hK hP 0 rfl rfl 6 (by decide) hk0 (fun _ h9 => h9) rfl d_S_run_5 ?_
  refine lv_aload_n hx hb d_S_run_8 rfl (lv_at hl 0 rfl) ?_
  refine va_get (D := (dC, dI)) (ci := 4) (v := .ref pq) (C := R_S) (T := F_S) (N := 11) hx hb hts hk1 hown hK hP 0 rfl rfl 0 (by decide) hk2 (fun _ h9 => h9) rfl d_S_run_9 ?_
  obtain ⟨r3, hc, hm⟩ := bd hm
  try dsimp only at hm
  refine vp_callSi (W.runV (As := []) (rest := [.ref mq]) ⟨hx, hb, hml, hown, hts⟩ (c_B_size l dC dI cI pq pq1 pq2 pq3 pq4 p_thicks p_wides p_lengths p_grades p_count  N r3 hc) (cwV 0 hts (gV (w0 186 rfl) (w0 187 rfl) (w0 188 rfl) (w0 29 rfl) (w0 189 rfl)) rfl rfl rfl q_B_size ⟨Nat.le_of_ble_eq_true rfl, Nat.le_of_ble_eq_true rfl⟩) (ro_preV [1, 2, 3, 4, 5] rfl hK hP hN 0 0 (R_B, F_B, 5) rfl rfl) rfl rfl hl.1 rfl (lv_room (Nat.le_of_ble_eq_true rfl)) d_S_run_12 ⟨Nat.le_of_ble_eq_true rfl, Nat.le_of_ble_eq_true rfl⟩) (fun r9 hr9 => ?_)
  subst hr9
  refine lv_aload_n hx hb d_S_run_15 rfl (lv_at hl 0 rfl) ?_
  refine va_get (D := (dC, dI)) (ci := 4) (v := .ref oq) (C := R_S) (T := F_S) (N := 11) hx hb hts hk1 hown hK hP 0 rfl rfl 1 (by decide) hk3 (fun _ h9 => h9) rfl d_S_run_16 ?_
  obtain ⟨r4, hc, hm⟩ := bd hm
  try dsimp only at hm
  refine vp_callSi (W.runV (As := []) (rest := [.int r3, .ref mq]) ⟨hx, hb, hml, hown, hts⟩ (c_B_size l dC dI cI oq oq1 oq2 oq3 oq4 o_thicks o_wides o_lengths o_grades o_count  N r4 hc) (cwV 0 hts (gV (w0 186 rfl) (w0 187 rfl) (w0 188 rfl) (w0 29 rfl) (w0 189 rfl)) rfl rfl rfl q_B_size ⟨Nat.le_of_ble_eq_true rfl, Nat.le_of_ble_eq_true rfl⟩) (ro_preV [6, 7, 8, 9, 10] rfl hK hP hN 0 0 (R_B, F_B, 5) rfl rfl) rfl rfl hl.1 rfl (lv_room (Nat.le_of_ble_eq_true rfl)) d_S_run_19 ⟨Nat.le_of_ble_eq_true rfl, Nat.le_of_ble_eq_true rfl⟩) (fun r9 hr9 => ?_)
  subst hr9
  obtain ⟨⟨u6, u7, u8, u9, u10, u11, u12, u13, u14⟩, hc, hm⟩ := bd hm
  try dsimp only at hm
  have hPc := hP.sub (ws' := [(mq, .inr (3, [.ref mq1, .ref mq2, .ref mq3, .ref mq4, .ref mq5, .int m_pieceCount, .int m_orderCount, .int m_pairs, .int m_worthSum, .int m_upToDate])), (mq1, .inl (cI, 100, .inl u2)), (mq2, .inl (cI, 11264, .inl m_best)), (mq3, .inl (cI, 10, .inl m_chosen)), (mq4, .inl (cI, 10, .inl m_pieceDuals)), (mq5, .inl (cI, 10, .inl m_orderDuals))]) [18, 19, 20, 21, 22, 23] rfl
  have hDc := hD.sub (ws' := [(mq, .inr (3, [.ref mq1, .ref mq2, .ref mq3, .ref mq4, .ref mq5, .int m_pieceCount, .int m_orderCount, .int m_pairs, .int m_worthSum, .int m_upToDate])), (mq1, .inl (cI, 100, .inl u2)), (mq2, .inl (cI, 11264, .inl m_best)), (mq3, .inl (cI, 10, .inl m_chosen)), (mq4, .inl (cI, 10, .inl m_pieceDuals)), (mq5, .inl (cI, 10, .inl m_orderDuals))]) [18, 19, 20, 21, 22, 23] (by decide) rfl
  have hFc := va_free (wc := [(mq, .inr (3, [.ref mq1, .ref mq2, .ref mq3, .ref mq4, .ref mq5, .int m_pieceCount, .int m_orderCount, .int m_pairs, .int m_worthSum, .int m_upToDate])), (mq1, .inl (cI, 100, .inl u2)), (mq2, .inl (cI, 11264, .inl m_best)), (mq3, .inl (cI, 10, .inl m_chosen)), (mq4, .inl (cI, 10, .inl m_pieceDuals)), (mq5, .inl (cI, 10, .inl m_orderDuals))]) hD hS hA [18, 19, 20, 21, 22, 23] rfl
  refine va_callv (va_runV (As := [.int r3, .int r4]) (rest := []) ⟨hx, hb, hml, hown, hts⟩ (c_M_solve l dC dI cI mq mq1 mq2 mq3 mq4 mq5 H.size u2 m_best m_chosen m_pieceDuals m_orderDuals m_pieceCount m_orderCount m_pairs m_worthSum m_upToDate r3 r4 N (u6, u7, u8, u9, u10, u11, u12, u13, u14) hc) (cwV 2 hts (gV (w0 237 rfl) (w0 238 rfl) (w0 239 rfl) (w0 32 rfl) (w0 240 rfl)) rfl rfl rfl q_M_solve ⟨Nat.le_of_ble_eq_true rfl, Nat.le_of_ble_eq_true rfl⟩) (wr_preV hK hPc hDc hN 3 0 (R_M, F_M, 10) rfl rfl) rfl rfl hl.1 rfl (lv_room (Nat.le_of_ble_eq_true rfl)) d_S_run_22 ⟨Nat.le_of_ble_eq_true rfl, Nat.le_of_ble_eq_true rfl⟩) hS (fun q _ h => hFc q h) hFc (fun u t H1 locs ht hvm hw hB hz1 hk1 hS => ?_)
  obtain ⟨hP1, hK1, hD1⟩ := hB
  rw [ht] at hP1
  obtain ⟨hP, hD⟩ := va_join (wr := [(sq, .inr (4, [.ref pq, .ref oq, .ref sq3, .ref sq4, .ref uq, .ref hq, .ref mq, .int s_today, .int s_cutOff, .int s_agingOff, .int s_saleAge])), (pq, .inr (0, [.ref pq1, .ref pq2, .ref pq3, .ref pq4, .int p_count])), (pq1, .inl (cI, 10, .inl p_thicks)), (pq2, .inl (cI, 10, .inl p_wides)), (pq3, .inl (cI, 10, .inl p_lengths)), (pq4, .inl (cI, 10, .inl p_grades)), (oq, .inr (0, [.ref oq1, .ref oq2, .ref oq3, .ref oq4, .int o_count])), (oq1, .inl (cI, 10, .inl o_thicks)), (oq2, .inl (cI, 10, .inl o_wides)), (oq3, .inl (cI, 10, .inl o_lengths)), (oq4, .inl (cI, 10, .inl o_grades)), (sq3, .inl (cI, 10, .inl s_cameOn)), (sq4, .inl (cI, 100, .inl s_told)), (uq, .inr (1, [.ref uq1, .int u_usedOrders])), (uq1, .inl (cI, 10, .inl u_ordersOfPiece)), (hq, .inr (2, [.ref hq1, .ref hq2, .int h_heldOrders])), (hq1, .inl (cI, 10, .inl h_orderOfPiece)), (hq2, .inl (cI, 10, .inl h_lastDay))]) (w1 := [(mq, .inr (3, [.ref mq1, .ref mq2, .ref mq3, .ref mq4, .ref mq5, .int u10, .int u11, .int u12, .int u13, .int u14])), (mq1, .inl (cI, 100, .inl u2)), (mq2, .inl (cI, 11264, .inl u6)), (mq3, .inl (cI, 10, .inl u7)), (mq4, .inl (cI, 10, .inl u8)), (mq5, .inl (cI, 10, .inl u9))]) hP hD [18, 19, 20, 21, 22, 23] [0, 1, 2, 3, 4, 5, 6, 7, 8, 9, 10, 11, 12, 13, 14, 15, 16, 17] rfl rfl (by decide) (by decide) hk1 hFc hP1 hD1
  generalize H1 = H at hP hS ⊢
  have hP : va_P (dC, dI) classes [(sq, .inr (4, [.ref pq, .ref oq, .ref sq3, .ref sq4, .ref uq, .ref hq, .ref mq, .int s_today, .int s_cutOff, .int s_agingOff, .int s_saleAge])), (pq, .inr (0, [.ref pq1, .ref pq2, .ref pq3, .ref pq4, .int p_count])), (pq1, .inl (cI, 10, .inl p_thicks)), (pq2, .inl (cI, 10, .inl p_wides)), (pq3, .inl (cI, 10, .inl p_lengths)), (pq4, .inl (cI, 10, .inl p_grades)), (oq, .inr (0, [.ref oq1, .ref oq2, .ref oq3, .ref oq4, .int o_count])), (oq1, .inl (cI, 10, .inl o_thicks)), (oq2, .inl (cI, 10, .inl o_wides)), (oq3, .inl (cI, 10, .inl o_lengths)), (oq4, .inl (cI, 10, .inl o_grades)), (sq3, .inl (cI, 10, .inl s_cameOn)), (sq4, .inl (cI, 100, .inl s_told)), (uq, .inr (1, [.ref uq1, .int u_usedOrders])), (uq1, .inl (cI, 10, .inl u_ordersOfPiece)), (hq, .inr (2, [.ref hq1, .ref hq2, .int h_heldOrders])), (hq1, .inl (cI, 10, .inl h_orderOfPiece)), (hq2, .inl (cI, 10, .inl h_lastDay)), (mq, .inr (3, [.ref mq1, .ref mq2, .ref mq3, .ref mq4, .ref mq5, .int u10, .int u11, .int u12, .int u13, .int u14])), (mq1, .inl (cI, 100, .inl u2)), (mq2, .inl (cI, 11264, .inl u6)), (mq3, .inl (cI, 10, .inl u7)), (mq4, .inl (cI, 10, .inl u8)), (mq5, .inl (cI, 10, .inl u9))] H := hP
  have hD : va_D A [(sq, .inr (4, [.ref pq, .ref oq, .ref sq3, .ref sq4, .ref uq, .ref hq, .ref mq, .int s_today, .int s_cutOff, .int s_agingOff, .int s_saleAge])), (pq, .inr (0, [.ref pq1, .ref pq2, .ref pq3, .ref pq4, .int p_count])), (pq1, .inl (cI, 10, .inl p_thicks)), (pq2, .inl (cI, 10, .inl p_wides)), (pq3, .inl (cI, 10, .inl p_lengths)), (pq4, .inl (cI, 10, .inl p_grades)), (oq, .inr (0, [.ref oq1, .ref oq2, .ref oq3, .ref oq4, .int o_count])), (oq1, .inl (cI, 10, .inl o_thicks)), (oq2, .inl (cI, 10, .inl o_wides)), (oq3, .inl (cI, 10, .inl o_lengths)), (oq4, .inl (cI, 10, .inl o_grades)), (sq3, .inl (cI, 10, .inl s_cameOn)), (sq4, .inl (cI, 100, .inl s_told)), (uq, .inr (1, [.ref uq1, .int u_usedOrders])), (uq1, .inl (cI, 10, .inl u_ordersOfPiece)), (hq, .inr (2, [.ref hq1, .ref hq2, .int h_heldOrders])), (hq1, .inl (cI, 10, .inl h_orderOfPiece)), (hq2, .inl (cI, 10, .inl h_lastDay)), (mq, .inr (3, [.ref mq1, .ref mq2, .ref mq3, .ref mq4, .ref mq5, .int u10, .int u11, .int u12, .int u13, .int u14])), (mq1, .inl (cI, 100, .inl u2)), (mq2, .inl (cI, 11264, .inl u6)), (mq3, .inl (cI, 10, .inl u7)), (mq4, .inl (cI, 10, .inl u8)), (mq5, .inl (cI, 10, .inl u9))] := hD
  clear hP1 hD1 hPc hDc hFc hk1 hz1
  refine lv_iconst (v := 0) hx hb d_S_run_25 (by decide) ?_
  refine lv_istore_n (lv' := [(1, .int 0), (0, .ref sq)]) hx hb d_S_run_26 rfl hl (by decide) rfl (fun ls hl => ?_)
  have key27 : ∀ (K : Int32 → (Nat → Int32) → Int32 → (Nat → Int32) → Int32 → (Nat → Int32) → (Nat → Int32) → (Nat → Int32) → (Nat → Int32) → (Nat → Int32) → Int32 → Int32 → Int32 → Int32 → Int32 → Option (Int32 × (Nat → Int32) × Int32 × (Nat → Int32) × Int32 × (Nat → Int32) × (Nat → Int32) × (Nat → Int32) × (Nat → Int32) × (Nat → Int32) × Int32 × Int32 × Int32 × Int32 × Int32)) (_ : ∀ (y1a : Int32) (u_ordersOfPiecea : Nat → Int32) (u_usedOrdersa : Int32) (h_orderOfPiecea : Nat → Int32) (h_heldOrdersa : Int32) (m_gainsa : Nat → Int32) (m_besta : Nat → Int32) (m_chosena : Nat → Int32) (m_pieceDualsa : Nat → Int32) (m_orderDualsa : Nat → Int32) (m_pieceCounta : Int32) (m_orderCounta : Int32) (m_pairsa : Int32) (m_worthSuma : Int32) (m_upToDatea : Int32) (H : Heap) (locs : List Loc) (ls : Array Slot), lv_has ls 3 [(0, .ref sq), (1, .int y1a)] → va_P (dC, dI) classes [(sq, .inr (4, [.ref pq, .ref oq, .ref sq3, .ref sq4, .ref uq, .ref hq, .ref mq, .int s_today, .int s_cutOff, .int s_agingOff, .int s_saleAge])), (pq, .inr (0, [.ref pq1, .ref pq2, .ref pq3, .ref pq4, .int p_count])), (pq1, .inl (cI, 10, .inl p_thicks)), (pq2, .inl (cI, 10, .inl p_wides)), (pq3, .inl (cI, 10, .inl p_lengths)), (pq4, .inl (cI, 10, .inl p_grades)), (oq, .inr (0, [.ref oq1, .ref oq2, .ref oq3, .ref oq4, .int o_count])), (oq1, .inl (cI, 10, .inl o_thicks)), (oq2, .inl (cI, 10, .inl o_wides)), (oq3, .inl (cI, 10, .inl o_lengths)), (oq4, .inl (cI, 10, .inl o_grades)), (sq3, .inl (cI, 10, .inl s_cameOn)), (sq4, .inl (cI, 100, .inl s_told)), (uq, .inr (1, [.ref uq1, .int u_usedOrdersa])), (uq1, .inl (cI, 10, .inl u_ordersOfPiecea)), (hq, .inr (2, [.ref hq1, .ref hq2, .int h_heldOrdersa])), (hq1, .inl (cI, 10, .inl h_orderOfPiecea)), (hq2, .inl (cI, 10, .inl h_lastDay)), (mq, .inr (3, [.ref mq1, .ref mq2, .ref mq3, .ref mq4, .ref mq5, .int m_pieceCounta, .int m_orderCounta, .int m_pairsa, .int m_worthSuma, .int m_upToDatea])), (mq1, .inl (cI, 100, .inl m_gainsa)), (mq2, .inl (cI, 11264, .inl m_besta)), (mq3, .inl (cI, 10, .inl m_chosena)), (mq4, .inl (cI, 10, .inl m_pieceDualsa)), (mq5, .inl (cI, 10, .inl m_orderDualsa))] H → va_D A [(sq, .inr (4, [.ref pq, .ref oq, .ref sq3, .ref sq4, .ref uq, .ref hq, .ref mq, .int s_today, .int s_cutOff, .int s_agingOff, .int s_saleAge])), (pq, .inr (0, [.ref pq1, .ref pq2, .ref pq3, .ref pq4, .int p_count])), (pq1, .inl (cI, 10, .inl p_thicks)), (pq2, .inl (cI, 10, .inl p_wides)), (pq3, .inl (cI, 10, .inl p_lengths)), (pq4, .inl (cI, 10, .inl p_grades)), (oq, .inr (0, [.ref oq1, .ref oq2, .ref oq3, .ref oq4, .int o_count])), (oq1, .inl (cI, 10, .inl o_thicks)), (oq2, .inl (cI, 10, .inl o_wides)), (oq3, .inl (cI, 10, .inl o_lengths)), (oq4, .inl (cI, 10, .inl o_grades)), (sq3, .inl (cI, 10, .inl s_cameOn)), (sq4, .inl (cI, 100, .inl s_told)), (uq, .inr (1, [.ref uq1, .int u_usedOrdersa])), (uq1, .inl (cI, 10, .inl u_ordersOfPiecea)), (hq, .inr (2, [.ref hq1, .ref hq2, .int h_heldOrdersa])), (hq1, .inl (cI, 10, .inl h_orderOfPiecea)), (hq2, .inl (cI, 10, .inl h_lastDay)), (mq, .inr (3, [.ref mq1, .ref mq2, .ref mq3, .ref mq4, .ref mq5, .int m_pieceCounta, .int m_orderCounta, .int m_pairsa, .int m_worthSuma, .int m_upToDatea])), (mq1, .inl (cI, 100, .inl m_gainsa)), (mq2, .inl (cI, 11264, .inl m_besta)), (mq3, .inl (cI, 10, .inl m_chosena)), (mq4, .inl (cI, 10, .inl m_pieceDualsa)), (mq5, .inl (cI, 10, .inl m_orderDualsa))] → va_S A s.heap H locs → K y1a u_ordersOfPiecea u_usedOrdersa h_orderOfPiecea h_heldOrdersa m_gainsa m_besta m_chosena m_pieceDualsa m_orderDualsa m_pieceCounta m_orderCounta m_pairsa m_worthSuma m_upToDatea = some res → W p l e (headSpec w_S_run ({ frames := 4, cells := 0, slots := 0, locals := 93 } : Room)).room s m ([.ref sq] : List Value).toArray below meth c H locs 0 0 (MQ below (va_Qi (fun (x : Int32) (_ : Unit) => res.1 = x) (fun _ t => va_P (dC, dI) classes [(sq, .inr (4, [.ref pq, .ref oq, .ref sq3, .ref sq4, .ref uq, .ref hq, .ref mq, .int s_today, .int s_cutOff, .int s_agingOff, .int s_saleAge])), (pq, .inr (0, [.ref pq1, .ref pq2, .ref pq3, .ref pq4, .int p_count])), (pq1, .inl (cI, 10, .inl p_thicks)), (pq2, .inl (cI, 10, .inl p_wides)), (pq3, .inl (cI, 10, .inl p_lengths)), (pq4, .inl (cI, 10, .inl p_grades)), (oq, .inr (0, [.ref oq1, .ref oq2, .ref oq3, .ref oq4, .int o_count])), (oq1, .inl (cI, 10, .inl o_thicks)), (oq2, .inl (cI, 10, .inl o_wides)), (oq3, .inl (cI, 10, .inl o_lengths)), (oq4, .inl (cI, 10, .inl o_grades)), (sq3, .inl (cI, 10, .inl s_cameOn)), (sq4, .inl (cI, 100, .inl s_told)), (uq, .inr (1, [.ref uq1, .int res.2.2.1])), (uq1, .inl (cI, 10, .inl res.2.1)), (hq, .inr (2, [.ref hq1, .ref hq2, .int res.2.2.2.2.1])), (hq1, .inl (cI, 10, .inl res.2.2.2.1)), (hq2, .inl (cI, 10, .inl h_lastDay)), (mq, .inr (3, [.ref mq1, .ref mq2, .ref mq3, .ref mq4, .ref mq5, .int res.2.2.2.2.2.2.2.2.2.2.1, .int res.2.2.2.2.2.2.2.2.2.2.2.1, .int res.2.2.2.2.2.2.2.2.2.2.2.2.1, .int res.2.2.2.2.2.2.2.2.2.2.2.2.2.1, .int res.2.2.2.2.2.2.2.2.2.2.2.2.2.2])), (mq1, .inl (cI, 100, .inl res.2.2.2.2.2.1)), (mq2, .inl (cI, 11264, .inl res.2.2.2.2.2.2.1)), (mq3, .inl (cI, 10, .inl res.2.2.2.2.2.2.2.1)), (mq4, .inl (cI, 10, .inl res.2.2.2.2.2.2.2.2.1)), (mq5, .inl (cI, 10, .inl res.2.2.2.2.2.2.2.2.2.1))] t.heap ∧ va_K (dC, dI) classes [(cI, .int)] t ∧ va_D A [(sq, .inr (4, [.ref pq, .ref oq, .ref sq3, .ref sq4, .ref uq, .ref hq, .ref mq, .int s_today, .int s_cutOff, .int s_agingOff, .int s_saleAge])), (pq, .inr (0, [.ref pq1, .ref pq2, .ref pq3, .ref pq4, .int p_count])), (pq1, .inl (cI, 10, .inl p_thicks)), (pq2, .inl (cI, 10, .inl p_wides)), (pq3, .inl (cI, 10, .inl p_lengths)), (pq4, .inl (cI, 10, .inl p_grades)), (oq, .inr (0, [.ref oq1, .ref oq2, .ref oq3, .ref oq4, .int o_count])), (oq1, .inl (cI, 10, .inl o_thicks)), (oq2, .inl (cI, 10, .inl o_wides)), (oq3, .inl (cI, 10, .inl o_lengths)), (oq4, .inl (cI, 10, .inl o_grades)), (sq3, .inl (cI, 10, .inl s_cameOn)), (sq4, .inl (cI, 100, .inl s_told)), (uq, .inr (1, [.ref uq1, .int res.2.2.1])), (uq1, .inl (cI, 10, .inl res.2.1)), (hq, .inr (2, [.ref hq1, .ref hq2, .int res.2.2.2.2.1])), (hq1, .inl (cI, 10, .inl res.2.2.2.1)), (hq2, .inl (cI, 10, .inl h_lastDay)), (mq, .inr (3, [.ref mq1, .ref mq2, .ref mq3, .ref mq4, .ref mq5, .int res.2.2.2.2.2.2.2.2.2.2.1, .int res.2.2.2.2.2.2.2.2.2.2.2.1, .int res.2.2.2.2.2.2.2.2.2.2.2.2.1, .int res.2.2.2.2.2.2.2.2.2.2.2.2.2.1, .int res.2.2.2.2.2.2.2.2.2.2.2.2.2.2])), (mq1, .inl (cI, 100, .inl res.2.2.2.2.2.1)), (mq2, .inl (cI, 11264, .inl res.2.2.2.2.2.2.1)), (mq3, .inl (cI, 10, .inl res.2.2.2.2.2.2.2.1)), (mq4, .inl (cI, 10, .inl res.2.2.2.2.2.2.2.2.1)), (mq5, .inl (cI, 10, .inl res.2.2.2.2.2.2.2.2.2.1))]) A) ([.ref sq] : List Value).toArray s 0 0 A) (F0 m 66 ls [])) (n : Nat) (y1a : Int32) (u_ordersOfPiecea : Nat → Int32) (u_usedOrdersa : Int32) (h_orderOfPiecea : Nat → Int32) (h_heldOrdersa : Int32) (m_gainsa : Nat → Int32) (m_besta : Nat → Int32) (m_chosena : Nat → Int32) (m_pieceDualsa : Nat → Int32) (m_orderDualsa : Nat → Int32) (m_pieceCounta : Int32) (m_orderCounta : Int32) (m_pairsa : Int32) (m_worthSuma : Int32) (m_upToDatea : Int32) (H : Heap) (locs : List Loc) (ls : Array Slot), lv_has ls 3 [(0, .ref sq), (1, .int y1a)] → va_P (dC, dI) classes [(sq, .inr (4, [.ref pq, .ref oq, .ref sq3, .ref sq4, .ref uq, .ref hq, .ref mq, .int s_today, .int s_cutOff, .int s_agingOff, .int s_saleAge])), (pq, .inr (0, [.ref pq1, .ref pq2, .ref pq3, .ref pq4, .int p_count])), (pq1, .inl (cI, 10, .inl p_thicks)), (pq2, .inl (cI, 10, .inl p_wides)), (pq3, .inl (cI, 10, .inl p_lengths)), (pq4, .inl (cI, 10, .inl p_grades)), (oq, .inr (0, [.ref oq1, .ref oq2, .ref oq3, .ref oq4, .int o_count])), (oq1, .inl (cI, 10, .inl o_thicks)), (oq2, .inl (cI, 10, .inl o_wides)), (oq3, .inl (cI, 10, .inl o_lengths)), (oq4, .inl (cI, 10, .inl o_grades)), (sq3, .inl (cI, 10, .inl s_cameOn)), (sq4, .inl (cI, 100, .inl s_told)), (uq, .inr (1, [.ref uq1, .int u_usedOrdersa])), (uq1, .inl (cI, 10, .inl u_ordersOfPiecea)), (hq, .inr (2, [.ref hq1, .ref hq2, .int h_heldOrdersa])), (hq1, .inl (cI, 10, .inl h_orderOfPiecea)), (hq2, .inl (cI, 10, .inl h_lastDay)), (mq, .inr (3, [.ref mq1, .ref mq2, .ref mq3, .ref mq4, .ref mq5, .int m_pieceCounta, .int m_orderCounta, .int m_pairsa, .int m_worthSuma, .int m_upToDatea])), (mq1, .inl (cI, 100, .inl m_gainsa)), (mq2, .inl (cI, 11264, .inl m_besta)), (mq3, .inl (cI, 10, .inl m_chosena)), (mq4, .inl (cI, 10, .inl m_pieceDualsa)), (mq5, .inl (cI, 10, .inl m_orderDualsa))] H → va_D A [(sq, .inr (4, [.ref pq, .ref oq, .ref sq3, .ref sq4, .ref uq, .ref hq, .ref mq, .int s_today, .int s_cutOff, .int s_agingOff, .int s_saleAge])), (pq, .inr (0, [.ref pq1, .ref pq2, .ref pq3, .ref pq4, .int p_count])), (pq1, .inl (cI, 10, .inl p_thicks)), (pq2, .inl (cI, 10, .inl p_wides)), (pq3, .inl (cI, 10, .inl p_lengths)), (pq4, .inl (cI, 10, .inl p_grades)), (oq, .inr (0, [.ref oq1, .ref oq2, .ref oq3, .ref oq4, .int o_count])), (oq1, .inl (cI, 10, .inl o_thicks)), (oq2, .inl (cI, 10, .inl o_wides)), (oq3, .inl (cI, 10, .inl o_lengths)), (oq4, .inl (cI, 10, .inl o_grades)), (sq3, .inl (cI, 10, .inl s_cameOn)), (sq4, .inl (cI, 100, .inl s_told)), (uq, .inr (1, [.ref uq1, .int u_usedOrdersa])), (uq1, .inl (cI, 10, .inl u_ordersOfPiecea)), (hq, .inr (2, [.ref hq1, .ref hq2, .int h_heldOrdersa])), (hq1, .inl (cI, 10, .inl h_orderOfPiecea)), (hq2, .inl (cI, 10, .inl h_lastDay)), (mq, .inr (3, [.ref mq1, .ref mq2, .ref mq3, .ref mq4, .ref mq5, .int m_pieceCounta, .int m_orderCounta, .int m_pairsa, .int m_worthSuma, .int m_upToDatea])), (mq1, .inl (cI, 100, .inl m_gainsa)), (mq2, .inl (cI, 11264, .inl m_besta)), (mq3, .inl (cI, 10, .inl m_chosena)), (mq4, .inl (cI, 10, .inl m_pieceDualsa)), (mq5, .inl (cI, 10, .inl m_orderDualsa))] → va_S A s.heap H locs → L_S_run_27 N p_count K n y1a u_ordersOfPiecea u_usedOrdersa h_orderOfPiecea h_heldOrdersa m_gainsa m_besta m_chosena m_pieceDualsa m_orderDualsa m_pieceCounta m_orderCounta m_pairsa m_worthSuma m_upToDatea = some res → W p l e (headSpec w_S_run ({ frames := 4, cells := 0, slots := 0, locals := 93 } : Room)).room s m ([.ref sq] : List Value).toArray below meth c H locs 0 0 (MQ below (va_Qi (fun (x : Int32) (_ : Unit) => res.1 = x) (fun _ t => va_P (dC, dI) classes [(sq, .inr (4, [.ref pq, .ref oq, .ref sq3, .ref sq4, .ref uq, .ref hq, .ref mq, .int s_today, .int s_cutOff, .int s_agingOff, .int s_saleAge])), (pq, .inr (0, [.ref pq1, .ref pq2, .ref pq3, .ref pq4, .int p_count])), (pq1, .inl (cI, 10, .inl p_thicks)), (pq2, .inl (cI, 10, .inl p_wides)), (pq3, .inl (cI, 10, .inl p_lengths)), (pq4, .inl (cI, 10, .inl p_grades)), (oq, .inr (0, [.ref oq1, .ref oq2, .ref oq3, .ref oq4, .int o_count])), (oq1, .inl (cI, 10, .inl o_thicks)), (oq2, .inl (cI, 10, .inl o_wides)), (oq3, .inl (cI, 10, .inl o_lengths)), (oq4, .inl (cI, 10, .inl o_grades)), (sq3, .inl (cI, 10, .inl s_cameOn)), (sq4, .inl (cI, 100, .inl s_told)), (uq, .inr (1, [.ref uq1, .int res.2.2.1])), (uq1, .inl (cI, 10, .inl res.2.1)), (hq, .inr (2, [.ref hq1, .ref hq2, .int res.2.2.2.2.1])), (hq1, .inl (cI, 10, .inl res.2.2.2.1)), (hq2, .inl (cI, 10, .inl h_lastDay)), (mq, .inr (3, [.ref mq1, .ref mq2, .ref mq3, .ref mq4, .ref mq5, .int res.2.2.2.2.2.2.2.2.2.2.1, .int res.2.2.2.2.2.2.2.2.2.2.2.1, .int res.2.2.2.2.2.2.2.2.2.2.2.2.1, .int res.2.2.2.2.2.2.2.2.2.2.2.2.2.1, .int res.2.2.2.2.2.2.2.2.2.2.2.2.2.2])), (mq1, .inl (cI, 100, .inl res.2.2.2.2.2.1)), (mq2, .inl (cI, 11264, .inl res.2.2.2.2.2.2.1)), (mq3, .inl (cI, 10, .inl res.2.2.2.2.2.2.2.1)), (mq4, .inl (cI, 10, .inl res.2.2.2.2.2.2.2.2.1)), (mq5, .inl (cI, 10, .inl res.2.2.2.2.2.2.2.2.2.1))] t.heap ∧ va_K (dC, dI) classes [(cI, .int)] t ∧ va_D A [(sq, .inr (4, [.ref pq, .ref oq, .ref sq3, .ref sq4, .ref uq, .ref hq, .ref mq, .int s_today, .int s_cutOff, .int s_agingOff, .int s_saleAge])), (pq, .inr (0, [.ref pq1, .ref pq2, .ref pq3, .ref pq4, .int p_count])), (pq1, .inl (cI, 10, .inl p_thicks)), (pq2, .inl (cI, 10, .inl p_wides)), (pq3, .inl (cI, 10, .inl p_lengths)), (pq4, .inl (cI, 10, .inl p_grades)), (oq, .inr (0, [.ref oq1, .ref oq2, .ref oq3, .ref oq4, .int o_count])), (oq1, .inl (cI, 10, .inl o_thicks)), (oq2, .inl (cI, 10, .inl o_wides)), (oq3, .inl (cI, 10, .inl o_lengths)), (oq4, .inl (cI, 10, .inl o_grades)), (sq3, .inl (cI, 10, .inl s_cameOn)), (sq4, .inl (cI, 100, .inl s_told)), (uq, .inr (1, [.ref uq1, .int res.2.2.1])), (uq1, .inl (cI, 10, .inl res.2.1)), (hq, .inr (2, [.ref hq1, .ref hq2, .int res.2.2.2.2.1])), (hq1, .inl (cI, 10, .inl res.2.2.2.1)), (hq2, .inl (cI, 10, .inl h_lastDay)), (mq, .inr (3, [.ref mq1, .ref mq2, .ref mq3, .ref mq4, .ref mq5, .int res.2.2.2.2.2.2.2.2.2.2.1, .int res.2.2.2.2.2.2.2.2.2.2.2.1, .int res.2.2.2.2.2.2.2.2.2.2.2.2.1, .int res.2.2.2.2.2.2.2.2.2.2.2.2.2.1, .int res.2.2.2.2.2.2.2.2.2.2.2.2.2.2])), (mq1, .inl (cI, 100, .inl res.2.2.2.2.2.1)), (mq2, .inl (cI, 11264, .inl res.2.2.2.2.2.2.1)), (mq3, .inl (cI, 10, .inl res.2.2.2.2.2.2.2.1)), (mq4, .inl (cI, 10, .inl res.2.2.2.2.2.2.2.2.1)), (mq5, .inl (cI, 10, .inl res.2.2.2.2.2.2.2.2.2.1))]) A) ([.ref sq] : List Value).toArray s 0 0 A) (F0 m 27 ls []) := by
    intro K hK27 n
    induction n with
    | zero => intro y1a u_ordersOfPiecea u_usedOrdersa h_orderOfPiecea h_heldOrdersa m_gainsa m_besta m_chosena m_pieceDualsa m_orderDualsa m_pieceCounta m_orderCounta m_pairsa m_worthSuma m_upToDatea H locs ls hl hP hD hS hm; exact absurd hm (by simp [L_S_run_27])
    | succ n ih27 =>
      intro y1a u_ordersOfPiecea u_usedOrdersa h_orderOfPiecea h_heldOrdersa m_gainsa m_besta m_chosena m_pieceDualsa m_orderDualsa m_pieceCounta m_orderCounta m_pairsa m_worthSuma m_upToDatea H locs ls hl hP hD hS hm
      rw [L_S_run_27] at hm
      refine lv_iload_n hx hb d_S_run_27 rfl (lv_at hl 1 rfl) ?_
      refine lv_aload_n hx hb d_S_run_28 rfl (lv_at hl 0 rfl) ?_
      refine va_get (D := (dC, dI)) (ci := 4) (v := .ref pq) (C := R_S) (T := F_S) (N := 11) hx hb hts hk1 hown hK hP 0 rfl rfl 0 (by decide) hk2 (fun _ h9 => h9) rfl d_S_run_29 ?_
      obtain ⟨r15, hc, hm⟩ := bd hm
      try dsimp only at hm
      refine vp_callSi (W.runV (As := []) (rest := [.int y1a]) ⟨hx, hb, hml, hown, hts⟩ (c_B_size l dC dI cI pq pq1 pq2 pq3 pq4 p_thicks p_wides p_lengths p_grades p_count  N r15 hc) (cwV 0 hts (gV (w0 186 rfl) (w0 187 rfl) (w0 188 rfl) (w0 29 rfl) (w0 189 rfl)) rfl rfl rfl q_B_size ⟨Nat.le_of_ble_eq_true rfl, Nat.le_of_ble_eq_true rfl⟩) (ro_preV [1, 2, 3, 4, 5] rfl hK hP hN 0 0 (R_B, F_B, 5) rfl rfl) rfl rfl hl.1 rfl (lv_room (Nat.le_of_ble_eq_true rfl)) d_S_run_32 ⟨Nat.le_of_ble_eq_true rfl, Nat.le_of_ble_eq_true rfl⟩) (fun r9 hr9 => ?_)
      subst hr9
      refine lv_icmp_ge (tgt := 66) hx hb d_S_run_35 (by decide) (fun c9 => ?_) (fun c9 => ?_)
      · replace hm := if_t c9 hm
        have hl : lv_has ls 3 [(0, .ref sq), (1, .int y1a)] := lv_sub hl [0, 1] rfl
        exact hK27 y1a u_ordersOfPiecea u_usedOrdersa h_orderOfPiecea h_heldOrdersa m_gainsa m_besta m_chosena m_pieceDualsa m_orderDualsa m_pieceCounta m_orderCounta m_pairsa m_worthSuma m_upToDatea _ _ ls hl hP hD hS hm
      · replace hm := if_f c9 hm
        refine lv_aload_n hx hb d_S_run_38 rfl (lv_at hl 0 rfl) ?_
        refine va_get (D := (dC, dI)) (ci := 4) (v := .ref mq) (C := R_S) (T := F_S) (N := 11) hx hb hts hk1 hown hK hP 0 rfl rfl 6 (by decide) hk0 (fun _ h9 => h9) rfl d_S_run_39 ?_
        refine lv_iload_n hx hb d_S_run_42 rfl (lv_at hl 1 rfl) ?_
        obtain ⟨r16, hc, hm⟩ := bd hm
        try dsimp only at hm
        refine vp_callSi (W.runV (As := [.int y1a]) (rest := []) ⟨hx, hb, hml, hown, hts⟩ (c_M_chosenFor l dC dI cI mq mq1 mq2 mq3 mq4 mq5 m_gainsa m_besta m_chosena m_pieceDualsa m_orderDualsa m_pieceCounta m_orderCounta m_pairsa m_worthSuma m_upToDatea y1a N r16 hc) (cwV 1 hts (gV (w0 262 rfl) (w0 263 rfl) (w0 264 rfl) (w0 32 rfl) (w0 265 rfl)) rfl rfl rfl q_M_chosenFor ⟨Nat.le_of_ble_eq_true rfl, Nat.le_of_ble_eq_true rfl⟩) (ro_preV [18, 19, 20, 21, 22, 23] rfl hK hP hN 3 0 (R_M, F_M, 10) rfl rfl) rfl rfl hl.1 rfl (lv_room (Nat.le_of_ble_eq_true rfl)) d_S_run_43 ⟨Nat.le_of_ble_eq_true rfl, Nat.le_of_ble_eq_true rfl⟩) (fun r9 hr9 => ?_)
        subst hr9
        refine lv_istore_n (lv' := [(2, .int r16), (0, .ref sq), (1, .int y1a)]) hx hb d_S_run_46 rfl hl (by decide) rfl (fun ls hl => ?_)
        refine lv_iload_n hx hb d_S_run_47 rfl (lv_at hl 0 rfl) ?_
        refine lv_iconst (v := (-1)) hx hb d_S_run_48 (by decide) ?_
        refine lv_icmp_eq (tgt := 60) hx hb d_S_run_49 (by decide) (fun c9 => ?_) (fun c9 => ?_)
        · replace hm := if_t c9 hm
          refine lv_iinc (v := (y1a + 1)) (lv' := [(1, .int (y1a + 1)), (2, .int r16), (0, .ref sq)]) hx hb d_S_run_60 hl (k := 2) rfl rfl (by decide) rfl (fun ls hl => ?_)
          refine lv_goto (tgt := 27) hx hb d_S_run_63 (by decide) ?_
          have hl : lv_has ls 3 [(0, .ref sq), (1, .int (y1a + 1))] := lv_sub hl [2, 0] rfl
          exact ih27 (y1a + 1) u_ordersOfPiecea u_usedOrdersa h_orderOfPiecea h_heldOrdersa m_gainsa m_besta m_chosena m_pieceDualsa m_orderDualsa m_pieceCounta m_orderCounta m_pairsa m_worthSuma m_upToDatea _ _ ls hl hP hD hS hm
        · replace hm := if_f c9 hm
          refine lv_aload_n hx hb d_S_run_52 rfl (lv_at hl 1 rfl) ?_
          refine lv_iload_n hx hb d_S_run_53 rfl (lv_at hl 2 rfl) ?_
          refine lv_iconst (v := 1) hx hb d_S_run_54 (by decide) ?_
          refine lv_iload_n hx hb d_S_run_55 rfl (lv_at hl 0 rfl) ?_
          refine lv_ishl hx hb d_S_run_56 ?_
          obtain ⟨⟨u18, u19, u20, u21⟩, hc, hm⟩ := bd hm
          try dsimp only at hm
          have hPc := hP.sub (ws' := [(sq, .inr (4, [.ref pq, .ref oq, .ref sq3, .ref sq4, .ref uq, .ref hq, .ref mq, .int s_today, .int s_cutOff, .int s_agingOff, .int s_saleAge])), (pq, .inr (0, [.ref pq1, .ref pq2, .ref pq3, .ref pq4, .int p_count])), (pq1, .inl (cI, 10, .inl p_thicks)), (pq2, .inl (cI, 10, .inl p_wides)), (pq3, .inl (cI, 10, .inl p_lengths)), (pq4, .inl (cI, 10, .inl p_grades)), (oq, .inr (0, [.ref oq1, .ref oq2, .ref oq3, .ref oq4, .int o_count])), (oq1, .inl (cI, 10, .inl o_thicks)), (oq2, .inl (cI, 10, .inl o_wides)), (oq3, .inl (cI, 10, .inl o_lengths)), (oq4, .inl (cI, 10, .inl o_grades)), (sq3, .inl (cI, 10, .inl s_cameOn)), (sq4, .inl (cI, 100, .inl s_told)), (uq, .inr (1, [.ref uq1, .int u_usedOrdersa])), (uq1, .inl (cI, 10, .inl u_ordersOfPiecea)), (hq, .inr (2, [.ref hq1, .ref hq2, .int h_heldOrdersa])), (hq1, .inl (cI, 10, .inl h_orderOfPiecea)), (hq2, .inl (cI, 10, .inl h_lastDay)), (mq, .inr (3, [.ref mq1, .ref mq2, .ref mq3, .ref mq4, .ref mq5, .int m_pieceCounta, .int m_orderCounta, .int m_pairsa, .int m_worthSuma, .int m_upToDatea])), (mq1, .inl (cI, 100, .inl m_gainsa)), (mq2, .inl (cI, 11264, .inl m_besta)), (mq3, .inl (cI, 10, .inl m_chosena)), (mq4, .inl (cI, 10, .inl m_pieceDualsa)), (mq5, .inl (cI, 10, .inl m_orderDualsa))]) [0, 1, 2, 3, 4, 5, 6, 7, 8, 9, 10, 11, 12, 13, 14, 15, 16, 17, 18, 19, 20, 21, 22, 23] rfl
          have hDc := hD.sub (ws' := [(sq, .inr (4, [.ref pq, .ref oq, .ref sq3, .ref sq4, .ref uq, .ref hq, .ref mq, .int s_today, .int s_cutOff, .int s_agingOff, .int s_saleAge])), (pq, .inr (0, [.ref pq1, .ref pq2, .ref pq3, .ref pq4, .int p_count])), (pq1, .inl (cI, 10, .inl p_thicks)), (pq2, .inl (cI, 10, .inl p_wides)), (pq3, .inl (cI, 10, .inl p_lengths)), (pq4, .inl (cI, 10, .inl p_grades)), (oq, .inr (0, [.ref oq1, .ref oq2, .ref oq3, .ref oq4, .int o_count])), (oq1, .inl (cI, 10, .inl o_thicks)), (oq2, .inl (cI, 10, .inl o_wides)), (oq3, .inl (cI, 10, .inl o_lengths)), (oq4, .inl (cI, 10, .inl o_grades)), (sq3, .inl (cI, 10, .inl s_cameOn)), (sq4, .inl (cI, 100, .inl s_told)), (uq, .inr (1, [.ref uq1, .int u_usedOrdersa])), (uq1, .inl (cI, 10, .inl u_ordersOfPiecea)), (hq, .inr (2, [.ref hq1, .ref hq2, .int h_heldOrdersa])), (hq1, .inl (cI, 10, .inl h_orderOfPiecea)), (hq2, .inl (cI, 10, .inl h_lastDay)), (mq, .inr (3, [.ref mq1, .ref mq2, .ref mq3, .ref mq4, .ref mq5, .int m_pieceCounta, .int m_orderCounta, .int m_pairsa, .int m_worthSuma, .int m_upToDatea])), (mq1, .inl (cI, 100, .inl m_gainsa)), (mq2, .inl (cI, 11264, .inl m_besta)), (mq3, .inl (cI, 10, .inl m_chosena)), (mq4, .inl (cI, 10, .inl m_pieceDualsa)), (mq5, .inl (cI, 10, .inl m_orderDualsa))]) [0, 1, 2, 3, 4, 5, 6, 7, 8, 9, 10, 11, 12, 13, 14, 15, 16, 17, 18, 19, 20, 21, 22, 23] (by decide) rfl
          have hFc := va_free (wc := [(sq, .inr (4, [.ref pq, .ref oq, .ref sq3, .ref sq4, .ref uq, .ref hq, .ref mq, .int s_today, .int s_cutOff, .int s_agingOff, .int s_saleAge])), (pq, .inr (0, [.ref pq1, .ref pq2, .ref pq3, .ref pq4, .int p_count])), (pq1, .inl (cI, 10, .inl p_thicks)), (pq2, .inl (cI, 10, .inl p_wides)), (pq3, .inl (cI, 10, .inl p_lengths)), (pq4, .inl (cI, 10, .inl p_grades)), (oq, .inr (0, [.ref oq1, .ref oq2, .ref oq3, .ref oq4, .int o_count])), (oq1, .inl (cI, 10, .inl o_thicks)), (oq2, .inl (cI, 10, .inl o_wides)), (oq3, .inl (cI, 10, .inl o_lengths)), (oq4, .inl (cI, 10, .inl o_grades)), (sq3, .inl (cI, 10, .inl s_cameOn)), (sq4, .inl (cI, 100, .inl s_told)), (uq, .inr (1, [.ref uq1, .int u_usedOrdersa])), (uq1, .inl (cI, 10, .inl u_ordersOfPiecea)), (hq, .inr (2, [.ref hq1, .ref hq2, .int h_heldOrdersa])), (hq1, .inl (cI, 10, .inl h_orderOfPiecea)), (hq2, .inl (cI, 10, .inl h_lastDay)), (mq, .inr (3, [.ref mq1, .ref mq2, .ref mq3, .ref mq4, .ref mq5, .int m_pieceCounta, .int m_orderCounta, .int m_pairsa, .int m_worthSuma, .int m_upToDatea])), (mq1, .inl (cI, 100, .inl m_gainsa)), (mq2, .inl (cI, 11264, .inl m_besta)), (mq3, .inl (cI, 10, .inl m_chosena)), (mq4, .inl (cI, 10, .inl m_pieceDualsa)), (mq5, .inl (cI, 10, .inl m_orderDualsa))]) hD hS hA [0, 1, 2, 3, 4, 5, 6, 7, 8, 9, 10, 11, 12, 13, 14, 15, 16, 17, 18, 19, 20, 21, 22, 23] rfl
          refine va_callv (va_runV (As := [.int y1a, .int ((1 : Int32) <<< (r16 &&& 31))]) (rest := []) ⟨hx, hb, hml, hown, hts⟩ (c_S_cutPiece l dC dI cI sq pq pq1 pq2 pq3 pq4 oq oq1 oq2 oq3 oq4 sq3 sq4 uq uq1 hq hq1 hq2 mq mq1 mq2 mq3 mq4 mq5 H.size p_thicks p_wides p_lengths p_grades p_count o_thicks o_wides o_lengths o_grades o_count s_cameOn s_told u_ordersOfPiecea u_usedOrdersa h_orderOfPiecea h_lastDay h_heldOrdersa m_gainsa m_besta m_chosena m_pieceDualsa m_orderDualsa m_pieceCounta m_orderCounta m_pairsa m_worthSuma m_upToDatea s_today s_cutOff s_agingOff s_saleAge y1a ((1 : Int32) <<< (r16 &&& 31)) N (u18, u19, u20, u21) hc) (cwV 2 hts (gV (w0 266 rfl) (w0 267 rfl) (w0 10 rfl) (w0 28 rfl) (w0 268 rfl)) rfl rfl rfl q_S_cutPiece ⟨Nat.le_of_ble_eq_true rfl, Nat.le_of_ble_eq_true rfl⟩) (wr_preV hK hPc hDc hN 4 0 (R_S, F_S, 11) rfl rfl) rfl rfl hl.1 rfl (lv_room (Nat.le_of_ble_eq_true rfl)) d_S_run_57 ⟨Nat.le_of_ble_eq_true rfl, Nat.le_of_ble_eq_true rfl⟩) hS (fun q _ h => hFc q h) hFc (fun u t H1 locs ht hvm hw hB hz1 hk1 hS => ?_)
          obtain ⟨hP1, hK1, hD1⟩ := hB
          rw [ht] at hP1
          obtain ⟨hP, hD⟩ := va_join (wr := []) (w1 := [(sq, .inr (4, [.ref pq, .ref oq, .ref sq3, .ref sq4, .ref uq, .ref hq, .ref mq, .int s_today, .int s_cutOff, .int s_agingOff, .int s_saleAge])), (pq, .inr (0, [.ref pq1, .ref pq2, .ref pq3, .ref pq4, .int p_count])), (pq1, .inl (cI, 10, .inl p_thicks)), (pq2, .inl (cI, 10, .inl p_wides)), (pq3, .inl (cI, 10, .inl p_lengths)), (pq4, .inl (cI, 10, .inl p_grades)), (oq, .inr (0, [.ref oq1, .ref oq2, .ref oq3, .ref oq4, .int o_count])), (oq1, .inl (cI, 10, .inl o_thicks)), (oq2, .inl (cI, 10, .inl o_wides)), (oq3, .inl (cI, 10, .inl o_lengths)), (oq4, .inl (cI, 10, .inl o_grades)), (sq3, .inl (cI, 10, .inl s_cameOn)), (sq4, .inl (cI, 100, .inl s_told)), (uq, .inr (1, [.ref uq1, .int u19])), (uq1, .inl (cI, 10, .inl u18)), (hq, .inr (2, [.ref hq1, .ref hq2, .int u21])), (hq1, .inl (cI, 10, .inl u20)), (hq2, .inl (cI, 10, .inl h_lastDay)), (mq, .inr (3, [.ref mq1, .ref mq2, .ref mq3, .ref mq4, .ref mq5, .int m_pieceCounta, .int m_orderCounta, .int m_pairsa, .int m_worthSuma, .int m_upToDatea])), (mq1, .inl (cI, 100, .inl m_gainsa)), (mq2, .inl (cI, 11264, .inl m_besta)), (mq3, .inl (cI, 10, .inl m_chosena)), (mq4, .inl (cI, 10, .inl m_pieceDualsa)), (mq5, .inl (cI, 10, .inl m_orderDualsa))]) hP hD [0, 1, 2, 3, 4, 5, 6, 7, 8, 9, 10, 11, 12, 13, 14, 15, 16, 17, 18, 19, 20, 21, 22, 23] [] rfl rfl (by decide) (by decide) hk1 hFc hP1 hD1
          generalize H1 = H at hP hS ⊢
          have hP : va_P (dC, dI) classes [(sq, .inr (4, [.ref pq, .ref oq, .ref sq3, .ref sq4, .ref uq, .ref hq, .ref mq, .int s_today, .int s_cutOff, .int s_agingOff, .int s_saleAge])), (pq, .inr (0, [.ref pq1, .ref pq2, .ref pq3, .ref pq4, .int p_count])), (pq1, .inl (cI, 10, .inl p_thicks)), (pq2, .inl (cI, 10, .inl p_wides)), (pq3, .inl (cI, 10, .inl p_lengths)), (pq4, .inl (cI, 10, .inl p_grades)), (oq, .inr (0, [.ref oq1, .ref oq2, .ref oq3, .ref oq4, .int o_count])), (oq1, .inl (cI, 10, .inl o_thicks)), (oq2, .inl (cI, 10, .inl o_wides)), (oq3, .inl (cI, 10, .inl o_lengths)), (oq4, .inl (cI, 10, .inl o_grades)), (sq3, .inl (cI, 10, .inl s_cameOn)), (sq4, .inl (cI, 100, .inl s_told)), (uq, .inr (1, [.ref uq1, .int u19])), (uq1, .inl (cI, 10, .inl u18)), (hq, .inr (2, [.ref hq1, .ref hq2, .int u21])), (hq1, .inl (cI, 10, .inl u20)), (hq2, .inl (cI, 10, .inl h_lastDay)), (mq, .inr (3, [.ref mq1, .ref mq2, .ref mq3, .ref mq4, .ref mq5, .int m_pieceCounta, .int m_orderCounta, .int m_pairsa, .int m_worthSuma, .int m_upToDatea])), (mq1, .inl (cI, 100, .inl m_gainsa)), (mq2, .inl (cI, 11264, .inl m_besta)), (mq3, .inl (cI, 10, .inl m_chosena)), (mq4, .inl (cI, 10, .inl m_pieceDualsa)), (mq5, .inl (cI, 10, .inl m_orderDualsa))] H := hP
          have hD : va_D A [(sq, .inr (4, [.ref pq, .ref oq, .ref sq3, .ref sq4, .ref uq, .ref hq, .ref mq, .int s_today, .int s_cutOff, .int s_agingOff, .int s_saleAge])), (pq, .inr (0, [.ref pq1, .ref pq2, .ref pq3, .ref pq4, .int p_count])), (pq1, .inl (cI, 10, .inl p_thicks)), (pq2, .inl (cI, 10, .inl p_wides)), (pq3, .inl (cI, 10, .inl p_lengths)), (pq4, .inl (cI, 10, .inl p_grades)), (oq, .inr (0, [.ref oq1, .ref oq2, .ref oq3, .ref oq4, .int o_count])), (oq1, .inl (cI, 10, .inl o_thicks)), (oq2, .inl (cI, 10, .inl o_wides)), (oq3, .inl (cI, 10, .inl o_lengths)), (oq4, .inl (cI, 10, .inl o_grades)), (sq3, .inl (cI, 10, .inl s_cameOn)), (sq4, .inl (cI, 100, .inl s_told)), (uq, .inr (1, [.ref uq1, .int u19])), (uq1, .inl (cI, 10, .inl u18)), (hq, .inr (2, [.ref hq1, .ref hq2, .int u21])), (hq1, .inl (cI, 10, .inl u20)), (hq2, .inl (cI, 10, .inl h_lastDay)), (mq, .inr (3, [.ref mq1, .ref mq2, .ref mq3, .ref mq4, .ref mq5, .int m_pieceCounta, .int m_orderCounta, .int m_pairsa, .int m_worthSuma, .int m_upToDatea])), (mq1, .inl (cI, 100, .inl m_gainsa)), (mq2, .inl (cI, 11264, .inl m_besta)), (mq3, .inl (cI, 10, .inl m_chosena)), (mq4, .inl (cI, 10, .inl m_pieceDualsa)), (mq5, .inl (cI, 10, .inl m_orderDualsa))] := hD
          clear hP1 hD1 hPc hDc hFc hk1 hz1
          refine lv_iinc (v := (y1a + 1)) (lv' := [(1, .int (y1a + 1)), (2, .int r16), (0, .ref sq)]) hx hb d_S_run_60 hl (k := 2) rfl rfl (by decide) rfl (fun ls hl => ?_)
          refine lv_goto (tgt := 27) hx hb d_S_run_63 (by decide) ?_
          have hl : lv_has ls 3 [(0, .ref sq), (1, .int (y1a + 1))] := lv_sub hl [2, 0] rfl
          exact ih27 (y1a + 1) u18 u19 u20 u21 m_gainsa m_besta m_chosena m_pieceDualsa m_orderDualsa m_pieceCounta m_orderCounta m_pairsa m_worthSuma m_upToDatea _ _ ls hl hP hD hS hm
  have hl : lv_has ls 3 [(0, .ref sq), (1, .int 0)] := lv_sub hl [1, 0] rfl
  refine key27 _ (fun y1a u_ordersOfPiecea u_usedOrdersa h_orderOfPiecea h_heldOrdersa m_gainsa m_besta m_chosena m_pieceDualsa m_orderDualsa m_pieceCounta m_orderCounta m_pairsa m_worthSuma m_upToDatea H locs ls hl hP hD hS hm => ?_) N 0 u_ordersOfPiece u_usedOrders h_orderOfPiece h_heldOrders u2 u6 u7 u8 u9 u10 u11 u12 u13 u14 _ _ ls hl hP hD hS hm
  try dsimp only at hm
  refine lv_aload_n hx hb d_S_run_66 rfl (lv_at hl 0 rfl) ?_
  refine va_get (D := (dC, dI)) (ci := 4) (v := .ref mq) (C := R_S) (T := F_S) (N := 11) hx hb hts hk1 hown hK hP 0 rfl rfl 6 (by decide) hk0 (fun _ h9 => h9) rfl d_S_run_67 ?_
  obtain ⟨r25, hc, hm⟩ := bd hm
  try dsimp only at hm
  refine vp_callSi (W.runV (As := []) (rest := []) ⟨hx, hb, hml, hown, hts⟩ (c_M_pairCount l dC dI cI mq mq1 mq2 mq3 mq4 mq5 m_gainsa m_besta m_chosena m_pieceDualsa m_orderDualsa m_pieceCounta m_orderCounta m_pairsa m_worthSuma m_upToDatea  N r25 hc) (cwV 0 hts (gV (w0 277 rfl) (w0 278 rfl) (w0 279 rfl) (w0 32 rfl) (w0 280 rfl)) rfl rfl rfl q_M_pairCount ⟨Nat.le_of_ble_eq_true rfl, Nat.le_of_ble_eq_true rfl⟩) (ro_preV [18, 19, 20, 21, 22, 23] rfl hK hP hN 3 0 (R_M, F_M, 10) rfl rfl) rfl rfl hl.1 rfl (lv_room (Nat.le_of_ble_eq_true rfl)) d_S_run_70 ⟨Nat.le_of_ble_eq_true rfl, Nat.le_of_ble_eq_true rfl⟩) (fun r9 hr9 => ?_)
  subst hr9
  cases hm
  refine W.widen (k := 0) (n := 0) (Nat.le_of_ble_eq_true rfl) (Nat.le_of_ble_eq_true rfl) ?_
  exact W.iret hx hb hr (fun t ht hW => ⟨⟨_, (), rfl, rfl, by rw [ht]; exact hP, va_K.moved hW.alike hK, hD⟩, hS.F ht⟩) hS.2.2 d_S_run_73

def w_S_sum : List Cond := .code y_S_sum b_S_sum 1 (some .int) :: W0
theorem q_S_sum : y_S_sum.cls = R_S ∧ y_S_sum.cls ≠ "java/lang/invoke/MethodHandle" ∧ y_S_sum.cls ≠ "java/lang/invoke/VarHandle" ∧ (parseMethodDescriptor y_S_sum.desc).map (fun d => d.parameters.length) = some 0 := by decide +kernel
def m_S_sum (m_worthSum : Int32) : Option Int32 :=
  ((m_M_bestSum m_worthSum).bind fun r1 =>
  some r1)
set_option maxHeartbeats 4000000 in
set_option maxRecDepth 100000 in
theorem c_S_sum (l : Launch) (dC : Nat → ClassId) (dI : Nat → Nat → Nat) (cI : ClassId) (sq pq pq1 pq2 pq3 pq4 oq oq1 oq2 oq3 oq4 sq3 sq4 uq uq1 hq hq1 hq2 mq mq1 mq2 mq3 mq4 mq5 : Nat) (p_thicks : Nat → Int32) (p_wides : Nat → Int32) (p_lengths : Nat → Int32) (p_grades : Nat → Int32) (p_count : Int32) (o_thicks : Nat → Int32) (o_wides : Nat → Int32) (o_lengths : Nat → Int32) (o_grades : Nat → Int32) (o_count : Int32) (s_cameOn : Nat → Int32) (s_told : Nat → Int32) (u_ordersOfPiece : Nat → Int32) (u_usedOrders : Int32) (h_orderOfPiece : Nat → Int32) (h_lastDay : Nat → Int32) (h_heldOrders : Int32) (m_gains : Nat → Int32) (m_best : Nat → Int32) (m_chosen : Nat → Int32) (m_pieceDuals : Nat → Int32) (m_orderDuals : Nat → Int32) (m_pieceCount : Int32) (m_orderCount : Int32) (m_pairs : Int32) (m_worthSum : Int32) (m_upToDate : Int32) (s_today : Int32) (s_cutOff : Int32) (s_agingOff : Int32) (s_saleAge : Int32)  (N : Nat) (res : Int32) (hm : m_S_sum m_worthSum = some res) : Met l y_S_sum w_S_sum ({ frames := 1, cells := 0, slots := 0, locals := 20 } : Room) (va_Pc [.ref sq] (fun U => va_P (dC, dI) classes [(sq, .inr (4, [.ref pq, .ref oq, .ref sq3, .ref sq4, .ref uq, .ref hq, .ref mq, .int s_today, .int s_cutOff, .int s_agingOff, .int s_saleAge])), (pq, .inr (0, [.ref pq1, .ref pq2, .ref pq3, .ref pq4, .int p_count])), (pq1, .inl (cI, 10, .inl p_thicks)), (pq2, .inl (cI, 10, .inl p_wides)), (pq3, .inl (cI, 10, .inl p_lengths)), (pq4, .inl (cI, 10, .inl p_grades)), (oq, .inr (0, [.ref oq1, .ref oq2, .ref oq3, .ref oq4, .int o_count])), (oq1, .inl (cI, 10, .inl o_thicks)), (oq2, .inl (cI, 10, .inl o_wides)), (oq3, .inl (cI, 10, .inl o_lengths)), (oq4, .inl (cI, 10, .inl o_grades)), (sq3, .inl (cI, 10, .inl s_cameOn)), (sq4, .inl (cI, 100, .inl s_told)), (uq, .inr (1, [.ref uq1, .int u_usedOrders])), (uq1, .inl (cI, 10, .inl u_ordersOfPiece)), (hq, .inr (2, [.ref hq1, .ref hq2, .int h_heldOrders])), (hq1, .inl (cI, 10, .inl h_orderOfPiece)), (hq2, .inl (cI, 10, .inl h_lastDay)), (mq, .inr (3, [.ref mq1, .ref mq2, .ref mq3, .ref mq4, .ref mq5, .int m_pieceCount, .int m_orderCount, .int m_pairs, .int m_worthSum, .int m_upToDate])), (mq1, .inl (cI, 100, .inl m_gains)), (mq2, .inl (cI, 11264, .inl m_best)), (mq3, .inl (cI, 10, .inl m_chosen)), (mq4, .inl (cI, 10, .inl m_pieceDuals)), (mq5, .inl (cI, 10, .inl m_orderDuals))] U.heap ∧ va_K (dC, dI) classes [(cI, .int)] U ∧ nw U)) (vp_Si (fun x => res = x)) 0 0 (fun _ => False) := by
  unfold m_S_sum at hm
  refine Met.ofW (cc := b_S_sum) (maxL := 1) (ret := (some .int)) (by decide) rfl ?_
  intro p e s m args below meth c s₁ B hml hv
  obtain ⟨rfl, hP, hK, hN⟩ := hv
  have hx := B.exec
  have hb := B.bytes
  have hr := B.returns
  have hts := atoms_spec (ws := w_S_sum) B.pre
  have hown : s.vm.findClass R_S = some m.cls := findClass_of_methodNamed B.named
  have hlocks := B.notSynchronized
  have hk0 := hts (.fieldLink R_S 43 "SurplusMatch" "matching" "LSurplusMatch$Matching;") (List.mem_cons_of_mem _ (w0 147 rfl))
  have hk1 : ∀ w ∈ w_S, w ∈ w_S_sum := fun w h => List.mem_cons_of_mem _ (i_S w h)
  have hl := lv_entry ([.ref sq]) (n := 1) (Nat.le_of_ble_eq_true rfl)
  rw [lg_entry_eq]
  generalize (lg_sl ([.ref sq]) ++ List.replicate (1 - (lg_sl ([.ref sq])).length) Slot.unset).toArray = ls at hl ⊢
  have hl : lv_has ls 1 [(0, .ref sq)] := hl
  refine lv_aload_n hx hb d_S_sum_0 rfl (lv_at hl 0 rfl) ?_
  refine va_get (D := (dC, dI)) (ci := 4) (v := .ref mq) (C := R_S) (T := F_S) (N := 11) hx hb hts hk1 hown hK hP 0 rfl rfl 6 (by decide) hk0 (fun _ h9 => h9) rfl d_S_sum_1 ?_
  obtain ⟨r1, hc, hm⟩ := bd hm
  try dsimp only at hm
  refine vp_callSi (W.runV (As := []) (rest := []) ⟨hx, hb, hml, hown, hts⟩ (c_M_bestSum l dC dI cI mq mq1 mq2 mq3 mq4 mq5 m_gains m_best m_chosen m_pieceDuals m_orderDuals m_pieceCount m_orderCount m_pairs m_worthSum m_upToDate  N r1 hc) (cwV 0 hts (gV (w0 285 rfl) (w0 286 rfl) (w0 287 rfl) (w0 32 rfl) (w0 288 rfl)) rfl rfl rfl q_M_bestSum ⟨Nat.le_of_ble_eq_true rfl, Nat.le_of_ble_eq_true rfl⟩) (ro_preV [18, 19, 20, 21, 22, 23] rfl hK hP hN 3 0 (R_M, F_M, 10) rfl rfl) rfl rfl hl.1 rfl (lv_room (Nat.le_of_ble_eq_true rfl)) d_S_sum_4 ⟨Nat.le_of_ble_eq_true rfl, Nat.le_of_ble_eq_true rfl⟩) (fun r9 hr9 => ?_)
  subst hr9
  cases hm
  exact W.iret hx hb hr (fun t ht hW => ⟨_, rfl, rfl, ht⟩) (fun _ h => nomatch h) d_S_sum_7

def w_S_refuseNegative : List Cond := .code y_S_refuseNegative b_S_refuseNegative 1 none :: W0
theorem q_S_refuseNegative : y_S_refuseNegative.cls = R_S ∧ y_S_refuseNegative.cls ≠ "java/lang/invoke/MethodHandle" ∧ y_S_refuseNegative.cls ≠ "java/lang/invoke/VarHandle" ∧ (parseMethodDescriptor y_S_refuseNegative.desc).map (fun d => d.parameters.length) = some 1 := by decide +kernel
def m_S_refuseNegative (x0 : Int32) : Option (Nat ⊕ Unit) :=
  (if 0 ≤ x0 then
  some (.inr ())
 else
  some (.inl 0))
set_option maxHeartbeats 4000000 in
set_option maxRecDepth 100000 in
theorem c_S_refuseNegative (l : Launch) (dC : Nat → ClassId) (dI : Nat → Nat → Nat) (cI : ClassId)  (x0 : Int32) (N : Nat) (res : Unit) (hm : m_S_refuseNegative x0 = some (.inr res)) : Met l y_S_refuseNegative w_S_refuseNegative ({ frames := 0, cells := 0, slots := 0, locals := 0 } : Room) (va_Pc [.int x0] (fun _ => True)) (va_Sv (fun _ => True)) 0 0 (fun _ => False) := by
  unfold m_S_refuseNegative at hm
  refine Met.ofW (cc := b_S_refuseNegative) (maxL := 1) (ret := none) (by decide) rfl ?_
  intro p e s m args below meth c s₁ B hml hv
  obtain ⟨rfl, -⟩ := hv
  have hx := B.exec
  have hb := B.bytes
  have hr := B.returns
  have hts := atoms_spec (ws := w_S_refuseNegative) B.pre
  have hown : s.vm.findClass R_S = some m.cls := findClass_of_methodNamed B.named
  have hlocks := B.notSynchronized
  have hl := lv_entry ([.int x0]) (n := 1) (Nat.le_of_ble_eq_true rfl)
  rw [lg_entry_eq]
  generalize (lg_sl ([.int x0]) ++ List.replicate (1 - (lg_sl ([.int x0])).length) Slot.unset).toArray = ls at hl ⊢
  have hl : lv_has ls 1 [(0, .int x0)] := hl
  refine lv_iload_n hx hb d_S_refuseNegative_0 rfl (lv_at hl 0 rfl) ?_
  refine lv_if_ge (tgt := 14) hx hb d_S_refuseNegative_1 (by decide) (fun c9 => ?_) (fun c9 => ?_)
  · replace hm := if_t c9 hm
    cases hm
    exact W.vret hx hb hr (fun t ht hW => ⟨rfl, trivial, ht⟩) (fun _ h => nomatch h) d_S_refuseNegative_14
  · replace hm := if_f c9 hm
    cases hm
set_option maxHeartbeats 4000000 in
set_option maxRecDepth 100000 in
theorem x_S_refuseNegative (l : Launch) (dC : Nat → ClassId) (dI : Nat → Nat → Nat) (cI : ClassId)  (x0 : Int32) (N : Nat) (k : Nat) (hst : l.stackTraces = false) (hm : m_S_refuseNegative x0 = some (.inl k)) : xt_Met l y_S_refuseNegative w_S_refuseNegative ({ frames := 6, cells := 1, slots := 6, locals := 96 } : Room) (va_Pc [.int x0] (fun U => xE xTx U U.heap)) (xn k) := by
  unfold m_S_refuseNegative at hm
  refine xt_ofW (cc := b_S_refuseNegative) (maxL := 1) (ret := none) (by decide) rfl ?_
  intro p e s m args below meth c s₁ B hml hout hv
  obtain ⟨rfl, hE⟩ := hv
  have hx := B.exec
  have hb := B.bytes
  have hr := B.returns
  have hts := atoms_spec (ws := w_S_refuseNegative) B.pre
  have hown : s.vm.findClass R_S = some m.cls := findClass_of_methodNamed B.named
  have hlocks := B.notSynchronized
  have hk0 := hts (.classLink R_S 130 "java/lang/IndexOutOfBoundsException") (List.mem_cons_of_mem _ (w0 413 rfl))
  have hk1 := hts (.initialized "java/lang/IndexOutOfBoundsException") (List.mem_cons_of_mem _ (w0 39 rfl))
  have hl := lv_entry ([.int x0]) (n := 1) (Nat.le_of_ble_eq_true rfl)
  rw [lg_entry_eq]
  generalize (lg_sl ([.int x0]) ++ List.replicate (1 - (lg_sl ([.int x0])).length) Slot.unset).toArray = ls at hl ⊢
  have hl : lv_has ls 1 [(0, .int x0)] := hl
  refine lv_iload_n hx hb d_S_refuseNegative_0 rfl (lv_at hl 0 rfl) ?_
  refine lv_if_ge (tgt := 14) hx hb d_S_refuseNegative_1 (by decide) (fun c9 => ?_) (fun c9 => ?_)
  · replace hm := if_t c9 hm
    cases hm
  · replace hm := if_f c9 hm
    cases hm
    obtain ⟨sa, hsa⟩ := hE.2.2.2.2 (232, "below 0") (List.mem_of_getElem? (i := 19) rfl)
    exact xt_throw (cls := "java/lang/IndexOutOfBoundsException") (names := xnm) hx hb hst hown (by decide +kernel) xnm_fit hk0 hk1 hsa (hat_0 hts hE) (hl.1.trans hml.symm) d_S_refuseNegative_4 d_S_refuseNegative_7 d_S_refuseNegative_8 d_S_refuseNegative_10 d_S_refuseNegative_13 hout (Nat.le_of_ble_eq_true rfl) (Nat.le_of_ble_eq_true rfl) (Nat.le_of_ble_eq_true rfl) (Nat.le_of_ble_eq_true rfl) hlocks

def w_S_refuseBoard : List Cond := .code y_S_refuseBoard b_S_refuseBoard 5 none :: W0
theorem q_S_refuseBoard : y_S_refuseBoard.cls = R_S ∧ y_S_refuseBoard.cls ≠ "java/lang/invoke/MethodHandle" ∧ y_S_refuseBoard.cls ≠ "java/lang/invoke/VarHandle" ∧ (parseMethodDescriptor y_S_refuseBoard.desc).map (fun d => d.parameters.length) = some 5 := by decide +kernel
def m_S_refuseBoard (b_count : Int32) (x1 : Int32) (x2 : Int32) (x3 : Int32) (x4 : Int32) : Option (Nat ⊕ Unit) :=
  ((m_S_isWithin x1 1 1000).bind fun r1 =>
  (if r1 = 0 then
    some (.inl 2)
   else
    ((m_S_isWithin x2 1 1000).bind fun r2 =>
      (if r2 = 0 then
        some (.inl 2)
       else
        ((m_S_isWithin x3 1 1000).bind fun r3 =>
          (if r3 = 0 then
            some (.inl 2)
           else
            ((m_S_isWithin x4 0 7).bind fun r4 =>
              (if r4 = 0 then
                some (.inl 2)
               else
                ((m_B_isFull b_count).bind fun r5 =>
                  (if r5 = 0 then
                    some (.inr ())
                   else
                    some (.inl 3)))))))))))
set_option maxHeartbeats 4000000 in
set_option maxRecDepth 100000 in
theorem c_S_refuseBoard (l : Launch) (dC : Nat → ClassId) (dI : Nat → Nat → Nat) (cI : ClassId) (bq bq1 bq2 bq3 bq4 : Nat) (b_thicks : Nat → Int32) (b_wides : Nat → Int32) (b_lengths : Nat → Int32) (b_grades : Nat → Int32) (b_count : Int32) (x1 : Int32) (x2 : Int32) (x3 : Int32) (x4 : Int32) (N : Nat) (res : Unit) (hm : m_S_refuseBoard b_count x1 x2 x3 x4 = some (.inr res)) : Met l y_S_refuseBoard w_S_refuseBoard ({ frames := 1, cells := 0, slots := 0, locals := 22 } : Room) (va_Pc [.ref bq, .int x1, .int x2, .int x3, .int x4] (fun U => va_P (dC, dI) classes [(bq, .inr (0, [.ref bq1, .ref bq2, .ref bq3, .ref bq4, .int b_count])), (bq1, .inl (cI, 10, .inl b_thicks)), (bq2, .inl (cI, 10, .inl b_wides)), (bq3, .inl (cI, 10, .inl b_lengths)), (bq4, .inl (cI, 10, .inl b_grades))] U.heap ∧ va_K (dC, dI) classes [(cI, .int)] U ∧ nw U)) (va_Sv (fun _ => True)) 0 0 (fun _ => False) := by
  unfold m_S_refuseBoard at hm
  refine Met.ofW (cc := b_S_refuseBoard) (maxL := 5) (ret := none) (by decide) rfl ?_
  intro p e s m args below meth c s₁ B hml hv
  obtain ⟨rfl, hP, hK, hN⟩ := hv
  have hx := B.exec
  have hb := B.bytes
  have hr := B.returns
  have hts := atoms_spec (ws := w_S_refuseBoard) B.pre
  have hown : s.vm.findClass R_S = some m.cls := findClass_of_methodNamed B.named
  have hlocks := B.notSynchronized
  have hl := lv_entry ([.ref bq, .int x1, .int x2, .int x3, .int x4]) (n := 5) (Nat.le_of_ble_eq_true rfl)
  rw [lg_entry_eq]
  generalize (lg_sl ([.ref bq, .int x1, .int x2, .int x3, .int x4]) ++ List.replicate (5 - (lg_sl ([.ref bq, .int x1, .int x2, .int x3, .int x4])).length) Slot.unset).toArray = ls at hl ⊢
  have hl : lv_has ls 5 [(0, .ref bq), (1, .int x1), (2, .int x2), (3, .int x3), (4, .int x4)] := hl
  refine lv_iload_n hx hb d_S_refuseBoard_0 rfl (lv_at hl 1 rfl) ?_
  refine lv_iconst (v := 1) hx hb d_S_refuseBoard_1 (by decide) ?_
  refine lv_sipush (v := 1000) hx hb d_S_refuseBoard_2 (by decide) ?_
  obtain ⟨r1, hc, hm⟩ := bd hm
  try dsimp only at hm
  refine vp_callSi (W.runS (As := [.int x1, .int 1, .int 1000]) (rest := []) ⟨hx, hb, hml, hown, hts⟩ (c_S_isWithin l dC dI cI x1 1 1000 N r1 hc) (cwS 3 hts (gS (w0 301 rfl) (w0 302 rfl) (w0 28 rfl) (w0 303 rfl)) rfl rfl rfl q_S_isWithin ⟨Nat.le_of_ble_eq_true rfl, Nat.le_of_ble_eq_true rfl⟩) ro_pre0 rfl rfl hl.1 rfl (lv_room (Nat.le_of_ble_eq_true rfl)) d_S_refuseBoard_5 ⟨Nat.le_of_ble_eq_true rfl, Nat.le_of_ble_eq_true rfl⟩) (fun r9 hr9 => ?_)
  subst hr9
  refine lv_if_eq (tgt := 33) hx hb d_S_refuseBoard_8 (by decide) (fun c9 => ?_) (fun c9 => ?_)
  · replace hm := if_t c9 hm
    cases hm
  · replace hm := if_f c9 hm
    refine lv_iload_n hx hb d_S_refuseBoard_11 rfl (lv_at hl 2 rfl) ?_
    refine lv_iconst (v := 1) hx hb d_S_refuseBoard_12 (by decide) ?_
    refine lv_sipush (v := 1000) hx hb d_S_refuseBoard_13 (by decide) ?_
    obtain ⟨r2, hc, hm⟩ := bd hm
    try dsimp only at hm
    refine vp_callSi (W.runS (As := [.int x2, .int 1, .int 1000]) (rest := []) ⟨hx, hb, hml, hown, hts⟩ (c_S_isWithin l dC dI cI x2 1 1000 N r2 hc) (cwS 3 hts (gS (w0 301 rfl) (w0 302 rfl) (w0 28 rfl) (w0 303 rfl)) rfl rfl rfl q_S_isWithin ⟨Nat.le_of_ble_eq_true rfl, Nat.le_of_ble_eq_true rfl⟩) ro_pre0 rfl rfl hl.1 rfl (lv_room (Nat.le_of_ble_eq_true rfl)) d_S_refuseBoard_16 ⟨Nat.le_of_ble_eq_true rfl, Nat.le_of_ble_eq_true rfl⟩) (fun r9 hr9 => ?_)
    subst hr9
    refine lv_if_eq (tgt := 33) hx hb d_S_refuseBoard_19 (by decide) (fun c9 => ?_) (fun c9 => ?_)
    · replace hm := if_t c9 hm
      cases hm
    · replace hm := if_f c9 hm
      refine lv_iload_n hx hb d_S_refuseBoard_22 rfl (lv_at hl 3 rfl) ?_
      refine lv_iconst (v := 1) hx hb d_S_refuseBoard_23 (by decide) ?_
      refine lv_sipush (v := 1000) hx hb d_S_refuseBoard_24 (by decide) ?_
      obtain ⟨r3, hc, hm⟩ := bd hm
      try dsimp only at hm
      refine vp_callSi (W.runS (As := [.int x3, .int 1, .int 1000]) (rest := []) ⟨hx, hb, hml, hown, hts⟩ (c_S_isWithin l dC dI cI x3 1 1000 N r3 hc) (cwS 3 hts (gS (w0 301 rfl) (w0 302 rfl) (w0 28 rfl) (w0 303 rfl)) rfl rfl rfl q_S_isWithin ⟨Nat.le_of_ble_eq_true rfl, Nat.le_of_ble_eq_true rfl⟩) ro_pre0 rfl rfl hl.1 rfl (lv_room (Nat.le_of_ble_eq_true rfl)) d_S_refuseBoard_27 ⟨Nat.le_of_ble_eq_true rfl, Nat.le_of_ble_eq_true rfl⟩) (fun r9 hr9 => ?_)
      subst hr9
      refine lv_if_ne (tgt := 43) hx hb d_S_refuseBoard_30 (by decide) (fun c9 => ?_) (fun c9 => ?_)
      · replace hm := if_f c9 hm
        refine lv_iload hx hb d_S_refuseBoard_43 (lv_at hl 4 rfl) ?_
        refine lv_iconst (v := 0) hx hb d_S_refuseBoard_45 (by decide) ?_
        refine lv_bipush (v := 7) hx hb d_S_refuseBoard_46 (by decide) ?_
        obtain ⟨r4, hc, hm⟩ := bd hm
        try dsimp only at hm
        refine vp_callSi (W.runS (As := [.int x4, .int 0, .int 7]) (rest := []) ⟨hx, hb, hml, hown, hts⟩ (c_S_isWithin l dC dI cI x4 0 7 N r4 hc) (cwS 3 hts (gS (w0 301 rfl) (w0 302 rfl) (w0 28 rfl) (w0 303 rfl)) rfl rfl rfl q_S_isWithin ⟨Nat.le_of_ble_eq_true rfl, Nat.le_of_ble_eq_true rfl⟩) ro_pre0 rfl rfl hl.1 rfl (lv_room (Nat.le_of_ble_eq_true rfl)) d_S_refuseBoard_48 ⟨Nat.le_of_ble_eq_true rfl, Nat.le_of_ble_eq_true rfl⟩) (fun r9 hr9 => ?_)
        subst hr9
        refine lv_if_ne (tgt := 64) hx hb d_S_refuseBoard_51 (by decide) (fun c9 => ?_) (fun c9 => ?_)
        · replace hm := if_f c9 hm
          refine lv_aload_n hx hb d_S_refuseBoard_64 rfl (lv_at hl 0 rfl) ?_
          obtain ⟨r5, hc, hm⟩ := bd hm
          try dsimp only at hm
          refine vp_callSi (W.runV (As := []) (rest := []) ⟨hx, hb, hml, hown, hts⟩ (c_B_isFull l dC dI cI bq bq1 bq2 bq3 bq4 b_thicks b_wides b_lengths b_grades b_count  N r5 hc) (cwV 0 hts (gV (w0 362 rfl) (w0 363 rfl) (w0 364 rfl) (w0 29 rfl) (w0 365 rfl)) rfl rfl rfl q_B_isFull ⟨Nat.le_of_ble_eq_true rfl, Nat.le_of_ble_eq_true rfl⟩) (ro_preV [0, 1, 2, 3, 4] rfl hK hP hN 0 0 (R_B, F_B, 5) rfl rfl) rfl rfl hl.1 rfl (lv_room (Nat.le_of_ble_eq_true rfl)) d_S_refuseBoard_65 ⟨Nat.le_of_ble_eq_true rfl, Nat.le_of_ble_eq_true rfl⟩) (fun r9 hr9 => ?_)
          subst hr9
          refine lv_if_eq (tgt := 81) hx hb d_S_refuseBoard_68 (by decide) (fun c9 => ?_) (fun c9 => ?_)
          · replace hm := if_t c9 hm
            cases hm
            exact W.vret hx hb hr (fun t ht hW => ⟨rfl, trivial, ht⟩) (fun _ h => nomatch h) d_S_refuseBoard_81
          · replace hm := if_f c9 hm
            cases hm
        · replace hm := if_t c9 hm
          cases hm
      · replace hm := if_t c9 hm
        cases hm
set_option maxHeartbeats 4000000 in
set_option maxRecDepth 100000 in
theorem x_S_refuseBoard (l : Launch) (dC : Nat → ClassId) (dI : Nat → Nat → Nat) (cI : ClassId) (bq bq1 bq2 bq3 bq4 : Nat) (b_thicks : Nat → Int32) (b_wides : Nat → Int32) (b_lengths : Nat → Int32) (b_grades : Nat → Int32) (b_count : Int32) (x1 : Int32) (x2 : Int32) (x3 : Int32) (x4 : Int32) (N : Nat) (k : Nat) (hst : l.stackTraces = false) (hm : m_S_refuseBoard b_count x1 x2 x3 x4 = some (.inl k)) : xt_Met l y_S_refuseBoard w_S_refuseBoard ({ frames := 6, cells := 1, slots := 6, locals := 96 } : Room) (va_Pc [.ref bq, .int x1, .int x2, .int x3, .int x4] (fun U => va_P (dC, dI) classes [(bq, .inr (0, [.ref bq1, .ref bq2, .ref bq3, .ref bq4, .int b_count])), (bq1, .inl (cI, 10, .inl b_thicks)), (bq2, .inl (cI, 10, .inl b_wides)), (bq3, .inl (cI, 10, .inl b_lengths)), (bq4, .inl (cI, 10, .inl b_grades))] U.heap ∧ va_K (dC, dI) classes [(cI, .int)] U ∧ nw U ∧ xE xTx U U.heap)) (xn k) := by
  unfold m_S_refuseBoard at hm
  refine xt_ofW (cc := b_S_refuseBoard) (maxL := 5) (ret := none) (by decide) rfl ?_
  intro p e s m args below meth c s₁ B hml hout hv
  obtain ⟨rfl, hP, hK, hN, hE⟩ := hv
  have hx := B.exec
  have hb := B.bytes
  have hr := B.returns
  have hts := atoms_spec (ws := w_S_refuseBoard) B.pre
  have hown : s.vm.findClass R_S = some m.cls := findClass_of_methodNamed B.named
  have hlocks := B.notSynchronized
  have hk0 := hts (.classLink R_S 74 "java/lang/IllegalArgumentException") (List.mem_cons_of_mem _ (w0 304 rfl))
  have hk1 := hts (.initialized "java/lang/IllegalArgumentException") (List.mem_cons_of_mem _ (w0 37 rfl))
  have hk2 := hts (.classLink R_S 223 "java/lang/UnsupportedOperationException") (List.mem_cons_of_mem _ (w0 366 rfl))
  have hk3 := hts (.initialized "java/lang/UnsupportedOperationException") (List.mem_cons_of_mem _ (w0 38 rfl))
  have hl := lv_entry ([.ref bq, .int x1, .int x2, .int x3, .int x4]) (n := 5) (Nat.le_of_ble_eq_true rfl)
  rw [lg_entry_eq]
  generalize (lg_sl ([.ref bq, .int x1, .int x2, .int x3, .int x4]) ++ List.replicate (5 - (lg_sl ([.ref bq, .int x1, .int x2, .int x3, .int x4])).length) Slot.unset).toArray = ls at hl ⊢
  have hl : lv_has ls 5 [(0, .ref bq), (1, .int x1), (2, .int x2), (3, .int x3), (4, .int x4)] := hl
  refine lv_iload_n hx hb d_S_refuseBoard_0 rfl (lv_at hl 1 rfl) ?_
  refine lv_iconst (v := 1) hx hb d_S_refuseBoard_1 (by decide) ?_
  refine lv_sipush (v := 1000) hx hb d_S_refuseBoard_2 (by decide) ?_
  obtain ⟨r1, hc, hm⟩ := bd hm
  try dsimp only at hm
  refine vp_callSi (W.runS (As := [.int x1, .int 1, .int 1000]) (rest := []) ⟨hx, hb, hml, hown, hts⟩ (c_S_isWithin l dC dI cI x1 1 1000 N r1 hc) (cwS 3 hts (gS (w0 301 rfl) (w0 302 rfl) (w0 28 rfl) (w0 303 rfl)) rfl rfl rfl q_S_isWithin ⟨Nat.le_of_ble_eq_true rfl, Nat.le_of_ble_eq_true rfl⟩) ro_pre0 rfl rfl hl.1 rfl (lv_room (Nat.le_of_ble_eq_true rfl)) d_S_refuseBoard_5 ⟨Nat.le_of_ble_eq_true rfl, Nat.le_of_ble_eq_true rfl⟩) (fun r9 hr9 => ?_)
  subst hr9
  refine lv_if_eq (tgt := 33) hx hb d_S_refuseBoard_8 (by decide) (fun c9 => ?_) (fun c9 => ?_)
  · replace hm := if_t c9 hm
    cases hm
    obtain ⟨sa, hsa⟩ := hE.2.2.2.2 (216, "a size is not 1 .. 1,000") (List.mem_of_getElem? (i := 14) rfl)
    exact xt_throw (cls := "java/lang/IllegalArgumentException") (names := xnm) hx hb hst hown (by decide +kernel) xnm_fit hk0 hk1 hsa (hat_2 hts hE) (hl.1.trans hml.symm) d_S_refuseBoard_33 d_S_refuseBoard_36 d_S_refuseBoard_37 d_S_refuseBoard_39 d_S_refuseBoard_42 hout (Nat.le_of_ble_eq_true rfl) (Nat.le_of_ble_eq_true rfl) (Nat.le_of_ble_eq_true rfl) (Nat.le_of_ble_eq_true rfl) hlocks
  · replace hm := if_f c9 hm
    refine lv_iload_n hx hb d_S_refuseBoard_11 rfl (lv_at hl 2 rfl) ?_
    refine lv_iconst (v := 1) hx hb d_S_refuseBoard_12 (by decide) ?_
    refine lv_sipush (v := 1000) hx hb d_S_refuseBoard_13 (by decide) ?_
    obtain ⟨r2, hc, hm⟩ := bd hm
    try dsimp only at hm
    refine vp_callSi (W.runS (As := [.int x2, .int 1, .int 1000]) (rest := []) ⟨hx, hb, hml, hown, hts⟩ (c_S_isWithin l dC dI cI x2 1 1000 N r2 hc) (cwS 3 hts (gS (w0 301 rfl) (w0 302 rfl) (w0 28 rfl) (w0 303 rfl)) rfl rfl rfl q_S_isWithin ⟨Nat.le_of_ble_eq_true rfl, Nat.le_of_ble_eq_true rfl⟩) ro_pre0 rfl rfl hl.1 rfl (lv_room (Nat.le_of_ble_eq_true rfl)) d_S_refuseBoard_16 ⟨Nat.le_of_ble_eq_true rfl, Nat.le_of_ble_eq_true rfl⟩) (fun r9 hr9 => ?_)
    subst hr9
    refine lv_if_eq (tgt := 33) hx hb d_S_refuseBoard_19 (by decide) (fun c9 => ?_) (fun c9 => ?_)
    · replace hm := if_t c9 hm
      cases hm
      obtain ⟨sa, hsa⟩ := hE.2.2.2.2 (216, "a size is not 1 .. 1,000") (List.mem_of_getElem? (i := 14) rfl)
      exact xt_throw (cls := "java/lang/IllegalArgumentException") (names := xnm) hx hb hst hown (by decide +kernel) xnm_fit hk0 hk1 hsa (hat_2 hts hE) (hl.1.trans hml.symm) d_S_refuseBoard_33 d_S_refuseBoard_36 d_S_refuseBoard_37 d_S_refuseBoard_39 d_S_refuseBoard_42 hout (Nat.le_of_ble_eq_true rfl) (Nat.le_of_ble_eq_true rfl) (Nat.le_of_ble_eq_true rfl) (Nat.le_of_ble_eq_true rfl) hlocks
    · replace hm := if_f c9 hm
      refine lv_iload_n hx hb d_S_refuseBoard_22 rfl (lv_at hl 3 rfl) ?_
      refine lv_iconst (v := 1) hx hb d_S_refuseBoard_23 (by decide) ?_
      refine lv_sipush (v := 1000) hx hb d_S_refuseBoard_24 (by decide) ?_
      obtain ⟨r3, hc, hm⟩ := bd hm
      try dsimp only at hm
      refine vp_callSi (W.runS (As := [.int x3, .int 1, .int 1000]) (rest := []) ⟨hx, hb, hml, hown, hts⟩ (c_S_isWithin l dC dI cI x3 1 1000 N r3 hc) (cwS 3 hts (gS (w0 301 rfl) (w0 302 rfl) (w0 28 rfl) (w0 303 rfl)) rfl rfl rfl q_S_isWithin ⟨Nat.le_of_ble_eq_true rfl, Nat.le_of_ble_eq_true rfl⟩) ro_pre0 rfl rfl hl.1 rfl (lv_room (Nat.le_of_ble_eq_true rfl)) d_S_refuseBoard_27 ⟨Nat.le_of_ble_eq_true rfl, Nat.le_of_ble_eq_true rfl⟩) (fun r9 hr9 => ?_)
      subst hr9
      refine lv_if_ne (tgt := 43) hx hb d_S_refuseBoard_30 (by decide) (fun c9 => ?_) (fun c9 => ?_)
      · replace hm := if_f c9 hm
        refine lv_iload hx hb d_S_refuseBoard_43 (lv_at hl 4 rfl) ?_
        refine lv_iconst (v := 0) hx hb d_S_refuseBoard_45 (by decide) ?_
        refine lv_bipush (v := 7) hx hb d_S_refuseBoard_46 (by decide) ?_
        obtain ⟨r4, hc, hm⟩ := bd hm
        try dsimp only at hm
        refine vp_callSi (W.runS (As := [.int x4, .int 0, .int 7]) (rest := []) ⟨hx, hb, hml, hown, hts⟩ (c_S_isWithin l dC dI cI x4 0 7 N r4 hc) (cwS 3 hts (gS (w0 301 rfl) (w0 302 rfl) (w0 28 rfl) (w0 303 rfl)) rfl rfl rfl q_S_isWithin ⟨Nat.le_of_ble_eq_true rfl, Nat.le_of_ble_eq_true rfl⟩) ro_pre0 rfl rfl hl.1 rfl (lv_room (Nat.le_of_ble_eq_true rfl)) d_S_refuseBoard_48 ⟨Nat.le_of_ble_eq_true rfl, Nat.le_of_ble_eq_true rfl⟩) (fun r9 hr9 => ?_)
        subst hr9
        refine lv_if_ne (tgt := 64) hx hb d_S_refuseBoard_51 (by decide) (fun c9 => ?_) (fun c9 => ?_)
        · replace hm := if_f c9 hm
          refine lv_aload_n hx hb d_S_refuseBoard_64 rfl (lv_at hl 0 rfl) ?_
          obtain ⟨r5, hc, hm⟩ := bd hm
          try dsimp only at hm
          refine vp_callSi (W.runV (As := []) (rest := []) ⟨hx, hb, hml, hown, hts⟩ (c_B_isFull l dC dI cI bq bq1 bq2 bq3 bq4 b_thicks b_wides b_lengths b_grades b_count  N r5 hc) (cwV 0 hts (gV (w0 362 rfl) (w0 363 rfl) (w0 364 rfl) (w0 29 rfl) (w0 365 rfl)) rfl rfl rfl q_B_isFull ⟨Nat.le_of_ble_eq_true rfl, Nat.le_of_ble_eq_true rfl⟩) (ro_preV [0, 1, 2, 3, 4] rfl hK hP hN 0 0 (R_B, F_B, 5) rfl rfl) rfl rfl hl.1 rfl (lv_room (Nat.le_of_ble_eq_true rfl)) d_S_refuseBoard_65 ⟨Nat.le_of_ble_eq_true rfl, Nat.le_of_ble_eq_true rfl⟩) (fun r9 hr9 => ?_)
          subst hr9
          refine lv_if_eq (tgt := 81) hx hb d_S_refuseBoard_68 (by decide) (fun c9 => ?_) (fun c9 => ?_)
          · replace hm := if_t c9 hm
            cases hm
          · replace hm := if_f c9 hm
            cases hm
            obtain ⟨sa, hsa⟩ := hE.2.2.2.2 (225, "there are 10") (List.mem_of_getElem? (i := 16) rfl)
            exact xt_throw (cls := "java/lang/UnsupportedOperationException") (names := xnm) hx hb hst hown (by decide +kernel) xnm_fit hk2 hk3 hsa (hat_3 hts hE) (hl.1.trans hml.symm) d_S_refuseBoard_71 d_S_refuseBoard_74 d_S_refuseBoard_75 d_S_refuseBoard_77 d_S_refuseBoard_80 hout (Nat.le_of_ble_eq_true rfl) (Nat.le_of_ble_eq_true rfl) (Nat.le_of_ble_eq_true rfl) (Nat.le_of_ble_eq_true rfl) hlocks
        · replace hm := if_t c9 hm
          cases hm
          obtain ⟨sa, hsa⟩ := hE.2.2.2.2 (218, "the grade is not 0 .. 7") (List.mem_of_getElem? (i := 15) rfl)
          exact xt_throw (cls := "java/lang/IllegalArgumentException") (names := xnm) hx hb hst hown (by decide +kernel) xnm_fit hk0 hk1 hsa (hat_2 hts hE) (hl.1.trans hml.symm) d_S_refuseBoard_54 d_S_refuseBoard_57 d_S_refuseBoard_58 d_S_refuseBoard_60 d_S_refuseBoard_63 hout (Nat.le_of_ble_eq_true rfl) (Nat.le_of_ble_eq_true rfl) (Nat.le_of_ble_eq_true rfl) (Nat.le_of_ble_eq_true rfl) hlocks
      · replace hm := if_t c9 hm
        cases hm
        obtain ⟨sa, hsa⟩ := hE.2.2.2.2 (216, "a size is not 1 .. 1,000") (List.mem_of_getElem? (i := 14) rfl)
        exact xt_throw (cls := "java/lang/IllegalArgumentException") (names := xnm) hx hb hst hown (by decide +kernel) xnm_fit hk0 hk1 hsa (hat_2 hts hE) (hl.1.trans hml.symm) d_S_refuseBoard_33 d_S_refuseBoard_36 d_S_refuseBoard_37 d_S_refuseBoard_39 d_S_refuseBoard_42 hout (Nat.le_of_ble_eq_true rfl) (Nat.le_of_ble_eq_true rfl) (Nat.le_of_ble_eq_true rfl) (Nat.le_of_ble_eq_true rfl) hlocks

def w_S_refuseUnknownPiece : List Cond := .code y_S_refuseUnknownPiece b_S_refuseUnknownPiece 2 none :: W0
theorem q_S_refuseUnknownPiece : y_S_refuseUnknownPiece.cls = R_S ∧ y_S_refuseUnknownPiece.cls ≠ "java/lang/invoke/MethodHandle" ∧ y_S_refuseUnknownPiece.cls ≠ "java/lang/invoke/VarHandle" ∧ (parseMethodDescriptor y_S_refuseUnknownPiece.desc).map (fun d => d.parameters.length) = some 1 := by decide +kernel
def m_S_refuseUnknownPiece (p_count : Int32) (x1 : Int32) : Option (Nat ⊕ Unit) :=
  ((m_B_has p_count x1).bind fun r1 =>
  (if r1 = 0 then
    some (.inl 0)
   else
    some (.inr ())))
set_option maxHeartbeats 4000000 in
set_option maxRecDepth 100000 in
theorem c_S_refuseUnknownPiece (l : Launch) (dC : Nat → ClassId) (dI : Nat → Nat → Nat) (cI : ClassId) (sq pq pq1 pq2 pq3 pq4 oq oq1 oq2 oq3 oq4 sq3 sq4 uq uq1 hq hq1 hq2 mq mq1 mq2 mq3 mq4 mq5 : Nat) (p_thicks : Nat → Int32) (p_wides : Nat → Int32) (p_lengths : Nat → Int32) (p_grades : Nat → Int32) (p_count : Int32) (o_thicks : Nat → Int32) (o_wides : Nat → Int32) (o_lengths : Nat → Int32) (o_grades : Nat → Int32) (o_count : Int32) (s_cameOn : Nat → Int32) (s_told : Nat → Int32) (u_ordersOfPiece : Nat → Int32) (u_usedOrders : Int32) (h_orderOfPiece : Nat → Int32) (h_lastDay : Nat → Int32) (h_heldOrders : Int32) (m_gains : Nat → Int32) (m_best : Nat → Int32) (m_chosen : Nat → Int32) (m_pieceDuals : Nat → Int32) (m_orderDuals : Nat → Int32) (m_pieceCount : Int32) (m_orderCount : Int32) (m_pairs : Int32) (m_worthSum : Int32) (m_upToDate : Int32) (s_today : Int32) (s_cutOff : Int32) (s_agingOff : Int32) (s_saleAge : Int32) (x1 : Int32) (N : Nat) (res : Unit) (hm : m_S_refuseUnknownPiece p_count x1 = some (.inr res)) : Met l y_S_refuseUnknownPiece w_S_refuseUnknownPiece ({ frames := 1, cells := 0, slots := 0, locals := 21 } : Room) (va_Pc [.ref sq, .int x1] (fun U => va_P (dC, dI) classes [(sq, .inr (4, [.ref pq, .ref oq, .ref sq3, .ref sq4, .ref uq, .ref hq, .ref mq, .int s_today, .int s_cutOff, .int s_agingOff, .int s_saleAge])), (pq, .inr (0, [.ref pq1, .ref pq2, .ref pq3, .ref pq4, .int p_count])), (pq1, .inl (cI, 10, .inl p_thicks)), (pq2, .inl (cI, 10, .inl p_wides)), (pq3, .inl (cI, 10, .inl p_lengths)), (pq4, .inl (cI, 10, .inl p_grades)), (oq, .inr (0, [.ref oq1, .ref oq2, .ref oq3, .ref oq4, .int o_count])), (oq1, .inl (cI, 10, .inl o_thicks)), (oq2, .inl (cI, 10, .inl o_wides)), (oq3, .inl (cI, 10, .inl o_lengths)), (oq4, .inl (cI, 10, .inl o_grades)), (sq3, .inl (cI, 10, .inl s_cameOn)), (sq4, .inl (cI, 100, .inl s_told)), (uq, .inr (1, [.ref uq1, .int u_usedOrders])), (uq1, .inl (cI, 10, .inl u_ordersOfPiece)), (hq, .inr (2, [.ref hq1, .ref hq2, .int h_heldOrders])), (hq1, .inl (cI, 10, .inl h_orderOfPiece)), (hq2, .inl (cI, 10, .inl h_lastDay)), (mq, .inr (3, [.ref mq1, .ref mq2, .ref mq3, .ref mq4, .ref mq5, .int m_pieceCount, .int m_orderCount, .int m_pairs, .int m_worthSum, .int m_upToDate])), (mq1, .inl (cI, 100, .inl m_gains)), (mq2, .inl (cI, 11264, .inl m_best)), (mq3, .inl (cI, 10, .inl m_chosen)), (mq4, .inl (cI, 10, .inl m_pieceDuals)), (mq5, .inl (cI, 10, .inl m_orderDuals))] U.heap ∧ va_K (dC, dI) classes [(cI, .int)] U ∧ nw U)) (va_Sv (fun _ => True)) 0 0 (fun _ => False) := by
  unfold m_S_refuseUnknownPiece at hm
  refine Met.ofW (cc := b_S_refuseUnknownPiece) (maxL := 2) (ret := none) (by decide) rfl ?_
  intro p e s m args below meth c s₁ B hml hv
  obtain ⟨rfl, hP, hK, hN⟩ := hv
  have hx := B.exec
  have hb := B.bytes
  have hr := B.returns
  have hts := atoms_spec (ws := w_S_refuseUnknownPiece) B.pre
  have hown : s.vm.findClass R_S = some m.cls := findClass_of_methodNamed B.named
  have hlocks := B.notSynchronized
  have hk0 := hts (.fieldLink R_S 10 "SurplusMatch" "pieces" "LSurplusMatch$Boards;") (List.mem_cons_of_mem _ (w0 141 rfl))
  have hk1 : ∀ w ∈ w_S, w ∈ w_S_refuseUnknownPiece := fun w h => List.mem_cons_of_mem _ (i_S w h)
  have hl := lv_entry ([.ref sq, .int x1]) (n := 2) (Nat.le_of_ble_eq_true rfl)
  rw [lg_entry_eq]
  generalize (lg_sl ([.ref sq, .int x1]) ++ List.replicate (2 - (lg_sl ([.ref sq, .int x1])).length) Slot.unset).toArray = ls at hl ⊢
  have hl : lv_has ls 2 [(0, .ref sq), (1, .int x1)] := hl
  refine lv_aload_n hx hb d_S_refuseUnknownPiece_0 rfl (lv_at hl 0 rfl) ?_
  refine va_get (D := (dC, dI)) (ci := 4) (v := .ref pq) (C := R_S) (T := F_S) (N := 11) hx hb hts hk1 hown hK hP 0 rfl rfl 0 (by decide) hk0 (fun _ h9 => h9) rfl d_S_refuseUnknownPiece_1 ?_
  refine lv_iload_n hx hb d_S_refuseUnknownPiece_4 rfl (lv_at hl 1 rfl) ?_
  obtain ⟨r1, hc, hm⟩ := bd hm
  try dsimp only at hm
  refine vp_callSi (W.runV (As := [.int x1]) (rest := []) ⟨hx, hb, hml, hown, hts⟩ (c_B_has l dC dI cI pq pq1 pq2 pq3 pq4 p_thicks p_wides p_lengths p_grades p_count x1 N r1 hc) (cwV 1 hts (gV (w0 409 rfl) (w0 410 rfl) (w0 411 rfl) (w0 29 rfl) (w0 412 rfl)) rfl rfl rfl q_B_has ⟨Nat.le_of_ble_eq_true rfl, Nat.le_of_ble_eq_true rfl⟩) (ro_preV [1, 2, 3, 4, 5] rfl hK hP hN 0 0 (R_B, F_B, 5) rfl rfl) rfl rfl hl.1 rfl (lv_room (Nat.le_of_ble_eq_true rfl)) d_S_refuseUnknownPiece_5 ⟨Nat.le_of_ble_eq_true rfl, Nat.le_of_ble_eq_true rfl⟩) (fun r9 hr9 => ?_)
  subst hr9
  refine lv_if_ne (tgt := 21) hx hb d_S_refuseUnknownPiece_8 (by decide) (fun c9 => ?_) (fun c9 => ?_)
  · replace hm := if_f c9 hm
    cases hm
    exact W.vret hx hb hr (fun t ht hW => ⟨rfl, trivial, ht⟩) (fun _ h => nomatch h) d_S_refuseUnknownPiece_21
  · replace hm := if_t c9 hm
    cases hm
set_option maxHeartbeats 4000000 in
set_option maxRecDepth 100000 in
theorem x_S_refuseUnknownPiece (l : Launch) (dC : Nat → ClassId) (dI : Nat → Nat → Nat) (cI : ClassId) (sq pq pq1 pq2 pq3 pq4 oq oq1 oq2 oq3 oq4 sq3 sq4 uq uq1 hq hq1 hq2 mq mq1 mq2 mq3 mq4 mq5 : Nat) (p_thicks : Nat → Int32) (p_wides : Nat → Int32) (p_lengths : Nat → Int32) (p_grades : Nat → Int32) (p_count : Int32) (o_thicks : Nat → Int32) (o_wides : Nat → Int32) (o_lengths : Nat → Int32) (o_grades : Nat → Int32) (o_count : Int32) (s_cameOn : Nat → Int32) (s_told : Nat → Int32) (u_ordersOfPiece : Nat → Int32) (u_usedOrders : Int32) (h_orderOfPiece : Nat → Int32) (h_lastDay : Nat → Int32) (h_heldOrders : Int32) (m_gains : Nat → Int32) (m_best : Nat → Int32) (m_chosen : Nat → Int32) (m_pieceDuals : Nat → Int32) (m_orderDuals : Nat → Int32) (m_pieceCount : Int32) (m_orderCount : Int32) (m_pairs : Int32) (m_worthSum : Int32) (m_upToDate : Int32) (s_today : Int32) (s_cutOff : Int32) (s_agingOff : Int32) (s_saleAge : Int32) (x1 : Int32) (N : Nat) (k : Nat) (hst : l.stackTraces = false) (hm : m_S_refuseUnknownPiece p_count x1 = some (.inl k)) : xt_Met l y_S_refuseUnknownPiece w_S_refuseUnknownPiece ({ frames := 6, cells := 1, slots := 6, locals := 96 } : Room) (va_Pc [.ref sq, .int x1] (fun U => va_P (dC, dI) classes [(sq, .inr (4, [.ref pq, .ref oq, .ref sq3, .ref sq4, .ref uq, .ref hq, .ref mq, .int s_today, .int s_cutOff, .int s_agingOff, .int s_saleAge])), (pq, .inr (0, [.ref pq1, .ref pq2, .ref pq3, .ref pq4, .int p_count])), (pq1, .inl (cI, 10, .inl p_thicks)), (pq2, .inl (cI, 10, .inl p_wides)), (pq3, .inl (cI, 10, .inl p_lengths)), (pq4, .inl (cI, 10, .inl p_grades)), (oq, .inr (0, [.ref oq1, .ref oq2, .ref oq3, .ref oq4, .int o_count])), (oq1, .inl (cI, 10, .inl o_thicks)), (oq2, .inl (cI, 10, .inl o_wides)), (oq3, .inl (cI, 10, .inl o_lengths)), (oq4, .inl (cI, 10, .inl o_grades)), (sq3, .inl (cI, 10, .inl s_cameOn)), (sq4, .inl (cI, 100, .inl s_told)), (uq, .inr (1, [.ref uq1, .int u_usedOrders])), (uq1, .inl (cI, 10, .inl u_ordersOfPiece)), (hq, .inr (2, [.ref hq1, .ref hq2, .int h_heldOrders])), (hq1, .inl (cI, 10, .inl h_orderOfPiece)), (hq2, .inl (cI, 10, .inl h_lastDay)), (mq, .inr (3, [.ref mq1, .ref mq2, .ref mq3, .ref mq4, .ref mq5, .int m_pieceCount, .int m_orderCount, .int m_pairs, .int m_worthSum, .int m_upToDate])), (mq1, .inl (cI, 100, .inl m_gains)), (mq2, .inl (cI, 11264, .inl m_best)), (mq3, .inl (cI, 10, .inl m_chosen)), (mq4, .inl (cI, 10, .inl m_pieceDuals)), (mq5, .inl (cI, 10, .inl m_orderDuals))] U.heap ∧ va_K (dC, dI) classes [(cI, .int)] U ∧ nw U ∧ xE xTx U U.heap)) (xn k) := by
  unfold m_S_refuseUnknownPiece at hm
  refine xt_ofW (cc := b_S_refuseUnknownPiece) (maxL := 2) (ret := none) (by decide) rfl ?_
  intro p e s m args below meth c s₁ B hml hout hv
  obtain ⟨rfl, hP, hK, hN, hE⟩ := hv
  have hx := B.exec
  have hb := B.bytes
  have hr := B.returns
  have hts := atoms_spec (ws := w_S_refuseUnknownPiece) B.pre
  have hown : s.vm.findClass R_S = some m.cls := findClass_of_methodNamed B.named
  have hlocks := B.notSynchronized
  have hk0 := hts (.fieldLink R_S 10 "SurplusMatch" "pieces" "LSurplusMatch$Boards;") (List.mem_cons_of_mem _ (w0 141 rfl))
  have hk1 : ∀ w ∈ w_S, w ∈ w_S_refuseUnknownPiece := fun w h => List.mem_cons_of_mem _ (i_S w h)
  have hk2 := hts (.classLink R_S 130 "java/lang/IndexOutOfBoundsException") (List.mem_cons_of_mem _ (w0 413 rfl))
  have hk3 := hts (.initialized "java/lang/IndexOutOfBoundsException") (List.mem_cons_of_mem _ (w0 39 rfl))
  have hl := lv_entry ([.ref sq, .int x1]) (n := 2) (Nat.le_of_ble_eq_true rfl)
  rw [lg_entry_eq]
  generalize (lg_sl ([.ref sq, .int x1]) ++ List.replicate (2 - (lg_sl ([.ref sq, .int x1])).length) Slot.unset).toArray = ls at hl ⊢
  have hl : lv_has ls 2 [(0, .ref sq), (1, .int x1)] := hl
  refine lv_aload_n hx hb d_S_refuseUnknownPiece_0 rfl (lv_at hl 0 rfl) ?_
  refine va_get (D := (dC, dI)) (ci := 4) (v := .ref pq) (C := R_S) (T := F_S) (N := 11) hx hb hts hk1 hown hK hP 0 rfl rfl 0 (by decide) hk0 (fun _ h9 => h9) rfl d_S_refuseUnknownPiece_1 ?_
  refine lv_iload_n hx hb d_S_refuseUnknownPiece_4 rfl (lv_at hl 1 rfl) ?_
  obtain ⟨r1, hc, hm⟩ := bd hm
  try dsimp only at hm
  refine vp_callSi (W.runV (As := [.int x1]) (rest := []) ⟨hx, hb, hml, hown, hts⟩ (c_B_has l dC dI cI pq pq1 pq2 pq3 pq4 p_thicks p_wides p_lengths p_grades p_count x1 N r1 hc) (cwV 1 hts (gV (w0 409 rfl) (w0 410 rfl) (w0 411 rfl) (w0 29 rfl) (w0 412 rfl)) rfl rfl rfl q_B_has ⟨Nat.le_of_ble_eq_true rfl, Nat.le_of_ble_eq_true rfl⟩) (ro_preV [1, 2, 3, 4, 5] rfl hK hP hN 0 0 (R_B, F_B, 5) rfl rfl) rfl rfl hl.1 rfl (lv_room (Nat.le_of_ble_eq_true rfl)) d_S_refuseUnknownPiece_5 ⟨Nat.le_of_ble_eq_true rfl, Nat.le_of_ble_eq_true rfl⟩) (fun r9 hr9 => ?_)
  subst hr9
  refine lv_if_ne (tgt := 21) hx hb d_S_refuseUnknownPiece_8 (by decide) (fun c9 => ?_) (fun c9 => ?_)
  · replace hm := if_f c9 hm
    cases hm
  · replace hm := if_t c9 hm
    cases hm
    obtain ⟨sa, hsa⟩ := hE.2.2.2.2 (228, "no such piece") (List.mem_of_getElem? (i := 17) rfl)
    exact xt_throw (cls := "java/lang/IndexOutOfBoundsException") (names := xnm) hx hb hst hown (by decide +kernel) xnm_fit hk2 hk3 hsa (hat_0 hts hE) (hl.1.trans hml.symm) d_S_refuseUnknownPiece_11 d_S_refuseUnknownPiece_14 d_S_refuseUnknownPiece_15 d_S_refuseUnknownPiece_17 d_S_refuseUnknownPiece_20 hout (Nat.le_of_ble_eq_true rfl) (Nat.le_of_ble_eq_true rfl) (Nat.le_of_ble_eq_true rfl) (Nat.le_of_ble_eq_true rfl) hlocks

def w_S_refuseUnknownPair : List Cond := .code y_S_refuseUnknownPair b_S_refuseUnknownPair 3 none :: W0
theorem q_S_refuseUnknownPair : y_S_refuseUnknownPair.cls = R_S ∧ y_S_refuseUnknownPair.cls ≠ "java/lang/invoke/MethodHandle" ∧ y_S_refuseUnknownPair.cls ≠ "java/lang/invoke/VarHandle" ∧ (parseMethodDescriptor y_S_refuseUnknownPair.desc).map (fun d => d.parameters.length) = some 2 := by decide +kernel
def m_S_refuseUnknownPair (p_count : Int32) (o_count : Int32) (x1 : Int32) (x2 : Int32) : Option (Nat ⊕ Unit) :=
  ((m_S_refuseUnknownPiece p_count x1).bind (tk fun _ =>
  ((m_B_has o_count x2).bind fun r2 =>
    (if r2 = 0 then
      some (.inl 0)
     else
      some (.inr ())))))
set_option maxHeartbeats 4000000 in
set_option maxRecDepth 100000 in
theorem c_S_refuseUnknownPair (l : Launch) (dC : Nat → ClassId) (dI : Nat → Nat → Nat) (cI : ClassId) (sq pq pq1 pq2 pq3 pq4 oq oq1 oq2 oq3 oq4 sq3 sq4 uq uq1 hq hq1 hq2 mq mq1 mq2 mq3 mq4 mq5 : Nat) (p_thicks : Nat → Int32) (p_wides : Nat → Int32) (p_lengths : Nat → Int32) (p_grades : Nat → Int32) (p_count : Int32) (o_thicks : Nat → Int32) (o_wides : Nat → Int32) (o_lengths : Nat → Int32) (o_grades : Nat → Int32) (o_count : Int32) (s_cameOn : Nat → Int32) (s_told : Nat → Int32) (u_ordersOfPiece : Nat → Int32) (u_usedOrders : Int32) (h_orderOfPiece : Nat → Int32) (h_lastDay : Nat → Int32) (h_heldOrders : Int32) (m_gains : Nat → Int32) (m_best : Nat → Int32) (m_chosen : Nat → Int32) (m_pieceDuals : Nat → Int32) (m_orderDuals : Nat → Int32) (m_pieceCount : Int32) (m_orderCount : Int32) (m_pairs : Int32) (m_worthSum : Int32) (m_upToDate : Int32) (s_today : Int32) (s_cutOff : Int32) (s_agingOff : Int32) (s_saleAge : Int32) (x1 : Int32) (x2 : Int32) (N : Nat) (res : Unit) (hm : m_S_refuseUnknownPair p_count o_count x1 x2 = some (.inr res)) : Met l y_S_refuseUnknownPair w_S_refuseUnknownPair ({ frames := 2, cells := 0, slots := 0, locals := 42 } : Room) (va_Pc [.ref sq, .int x1, .int x2] (fun U => va_P (dC, dI) classes [(sq, .inr (4, [.ref pq, .ref oq, .ref sq3, .ref sq4, .ref uq, .ref hq, .ref mq, .int s_today, .int s_cutOff, .int s_agingOff, .int s_saleAge])), (pq, .inr (0, [.ref pq1, .ref pq2, .ref pq3, .ref pq4, .int p_count])), (pq1, .inl (cI, 10, .inl p_thicks)), (pq2, .inl (cI, 10, .inl p_wides)), (pq3, .inl (cI, 10, .inl p_lengths)), (pq4, .inl (cI, 10, .inl p_grades)), (oq, .inr (0, [.ref oq1, .ref oq2, .ref oq3, .ref oq4, .int o_count])), (oq1, .inl (cI, 10, .inl o_thicks)), (oq2, .inl (cI, 10, .inl o_wides)), (oq3, .inl (cI, 10, .inl o_lengths)), (oq4, .inl (cI, 10, .inl o_grades)), (sq3, .inl (cI, 10, .inl s_cameOn)), (sq4, .inl (cI, 100, .inl s_told)), (uq, .inr (1, [.ref uq1, .int u_usedOrders])), (uq1, .inl (cI, 10, .inl u_ordersOfPiece)), (hq, .inr (2, [.ref hq1, .ref hq2, .int h_heldOrders])), (hq1, .inl (cI, 10, .inl h_orderOfPiece)), (hq2, .inl (cI, 10, .inl h_lastDay)), (mq, .inr (3, [.ref mq1, .ref mq2, .ref mq3, .ref mq4, .ref mq5, .int m_pieceCount, .int m_orderCount, .int m_pairs, .int m_worthSum, .int m_upToDate])), (mq1, .inl (cI, 100, .inl m_gains)), (mq2, .inl (cI, 11264, .inl m_best)), (mq3, .inl (cI, 10, .inl m_chosen)), (mq4, .inl (cI, 10, .inl m_pieceDuals)), (mq5, .inl (cI, 10, .inl m_orderDuals))] U.heap ∧ va_K (dC, dI) classes [(cI, .int)] U ∧ nw U)) (va_Sv (fun _ => True)) 0 0 (fun _ => False) := by
  unfold m_S_refuseUnknownPair at hm
  refine Met.ofW (cc := b_S_refuseUnknownPair) (maxL := 3) (ret := none) (by decide) rfl ?_
  intro p e s m args below meth c s₁ B hml hv
  obtain ⟨rfl, hP, hK, hN⟩ := hv
  have hx := B.exec
  have hb := B.bytes
  have hr := B.returns
  have hts := atoms_spec (ws := w_S_refuseUnknownPair) B.pre
  have hown : s.vm.findClass R_S = some m.cls := findClass_of_methodNamed B.named
  have hlocks := B.notSynchronized
  have hk0 := hts (.fieldLink R_S 16 "SurplusMatch" "orders" "LSurplusMatch$Boards;") (List.mem_cons_of_mem _ (w0 142 rfl))
  have hk1 : ∀ w ∈ w_S, w ∈ w_S_refuseUnknownPair := fun w h => List.mem_cons_of_mem _ (i_S w h)
  have hl := lv_entry ([.ref sq, .int x1, .int x2]) (n := 3) (Nat.le_of_ble_eq_true rfl)
  rw [lg_entry_eq]
  generalize (lg_sl ([.ref sq, .int x1, .int x2]) ++ List.replicate (3 - (lg_sl ([.ref sq, .int x1, .int x2])).length) Slot.unset).toArray = ls at hl ⊢
  have hl : lv_has ls 3 [(0, .ref sq), (1, .int x1), (2, .int x2)] := hl
  refine lv_aload_n hx hb d_S_refuseUnknownPair_0 rfl (lv_at hl 0 rfl) ?_
  refine lv_iload_n hx hb d_S_refuseUnknownPair_1 rfl (lv_at hl 1 rfl) ?_
  obtain ⟨z9, hc, hm⟩ := bd hm
  rcases z9 with k9 | ⟨⟩
  · dsimp only [tk] at hm
    cases hm
  · dsimp only [tk] at hm
    refine va_csv (W.runV (As := [.int x1]) (rest := []) ⟨hx, hb, hml, hown, hts⟩ (c_S_refuseUnknownPiece l dC dI cI sq pq pq1 pq2 pq3 pq4 oq oq1 oq2 oq3 oq4 sq3 sq4 uq uq1 hq hq1 hq2 mq mq1 mq2 mq3 mq4 mq5 p_thicks p_wides p_lengths p_grades p_count o_thicks o_wides o_lengths o_grades o_count s_cameOn s_told u_ordersOfPiece u_usedOrders h_orderOfPiece h_lastDay h_heldOrders m_gains m_best m_chosen m_pieceDuals m_orderDuals m_pieceCount m_orderCount m_pairs m_worthSum m_upToDate s_today s_cutOff s_agingOff s_saleAge x1 N () hc) (cwV 1 hts (gV (w0 406 rfl) (w0 407 rfl) (w0 12 rfl) (w0 28 rfl) (w0 408 rfl)) rfl rfl rfl q_S_refuseUnknownPiece ⟨Nat.le_of_ble_eq_true rfl, Nat.le_of_ble_eq_true rfl⟩) (ro_preV [0, 1, 2, 3, 4, 5, 6, 7, 8, 9, 10, 11, 12, 13, 14, 15, 16, 17, 18, 19, 20, 21, 22, 23] rfl hK hP hN 4 0 (R_S, F_S, 11) rfl rfl) rfl rfl hl.1 rfl (lv_room (Nat.le_of_ble_eq_true rfl)) d_S_refuseUnknownPair_2 ⟨Nat.le_of_ble_eq_true rfl, Nat.le_of_ble_eq_true rfl⟩) (fun _ => ?_)
    refine lv_aload_n hx hb d_S_refuseUnknownPair_5 rfl (lv_at hl 0 rfl) ?_
    refine va_get (D := (dC, dI)) (ci := 4) (v := .ref oq) (C := R_S) (T := F_S) (N := 11) hx hb hts hk1 hown hK hP 0 rfl rfl 1 (by decide) hk0 (fun _ h9 => h9) rfl d_S_refuseUnknownPair_6 ?_
    refine lv_iload_n hx hb d_S_refuseUnknownPair_9 rfl (lv_at hl 2 rfl) ?_
    obtain ⟨r2, hc, hm⟩ := bd hm
    try dsimp only at hm
    refine vp_callSi (W.runV (As := [.int x2]) (rest := []) ⟨hx, hb, hml, hown, hts⟩ (c_B_has l dC dI cI oq oq1 oq2 oq3 oq4 o_thicks o_wides o_lengths o_grades o_count x2 N r2 hc) (cwV 1 hts (gV (w0 409 rfl) (w0 410 rfl) (w0 411 rfl) (w0 29 rfl) (w0 412 rfl)) rfl rfl rfl q_B_has ⟨Nat.le_of_ble_eq_true rfl, Nat.le_of_ble_eq_true rfl⟩) (ro_preV [6, 7, 8, 9, 10] rfl hK hP hN 0 0 (R_B, F_B, 5) rfl rfl) rfl rfl hl.1 rfl (lv_room (Nat.le_of_ble_eq_true rfl)) d_S_refuseUnknownPair_10 ⟨Nat.le_of_ble_eq_true rfl, Nat.le_of_ble_eq_true rfl⟩) (fun r9 hr9 => ?_)
    subst hr9
    refine lv_if_ne (tgt := 26) hx hb d_S_refuseUnknownPair_13 (by decide) (fun c9 => ?_) (fun c9 => ?_)
    · replace hm := if_f c9 hm
      cases hm
      exact W.vret hx hb hr (fun t ht hW => ⟨rfl, trivial, ht⟩) (fun _ h => nomatch h) d_S_refuseUnknownPair_26
    · replace hm := if_t c9 hm
      cases hm
set_option maxHeartbeats 4000000 in
set_option maxRecDepth 100000 in
theorem x_S_refuseUnknownPair (l : Launch) (dC : Nat → ClassId) (dI : Nat → Nat → Nat) (cI : ClassId) (sq pq pq1 pq2 pq3 pq4 oq oq1 oq2 oq3 oq4 sq3 sq4 uq uq1 hq hq1 hq2 mq mq1 mq2 mq3 mq4 mq5 : Nat) (p_thicks : Nat → Int32) (p_wides : Nat → Int32) (p_lengths : Nat → Int32) (p_grades : Nat → Int32) (p_count : Int32) (o_thicks : Nat → Int32) (o_wides : Nat → Int32) (o_lengths : Nat → Int32) (o_grades : Nat → Int32) (o_count : Int32) (s_cameOn : Nat → Int32) (s_told : Nat → Int32) (u_ordersOfPiece : Nat → Int32) (u_usedOrders : Int32) (h_orderOfPiece : Nat → Int32) (h_lastDay : Nat → Int32) (h_heldOrders : Int32) (m_gains : Nat → Int32) (m_best : Nat → Int32) (m_chosen : Nat → Int32) (m_pieceDuals : Nat → Int32) (m_orderDuals : Nat → Int32) (m_pieceCount : Int32) (m_orderCount : Int32) (m_pairs : Int32) (m_worthSum : Int32) (m_upToDate : Int32) (s_today : Int32) (s_cutOff : Int32) (s_agingOff : Int32) (s_saleAge : Int32) (x1 : Int32) (x2 : Int32) (N : Nat) (k : Nat) (hst : l.stackTraces = false) (hm : m_S_refuseUnknownPair p_count o_count x1 x2 = some (.inl k)) : xt_Met l y_S_refuseUnknownPair w_S_refuseUnknownPair ({ frames := 7, cells := 1, slots := 6, locals := 117 } : Room) (va_Pc [.ref sq, .int x1, .int x2] (fun U => va_P (dC, dI) classes [(sq, .inr (4, [.ref pq, .ref oq, .ref sq3, .ref sq4, .ref uq, .ref hq, .ref mq, .int s_today, .int s_cutOff, .int s_agingOff, .int s_saleAge])), (pq, .inr (0, [.ref pq1, .ref pq2, .ref pq3, .ref pq4, .int p_count])), (pq1, .inl (cI, 10, .inl p_thicks)), (pq2, .inl (cI, 10, .inl p_wides)), (pq3, .inl (cI, 10, .inl p_lengths)), (pq4, .inl (cI, 10, .inl p_grades)), (oq, .inr (0, [.ref oq1, .ref oq2, .ref oq3, .ref oq4, .int o_count])), (oq1, .inl (cI, 10, .inl o_thicks)), (oq2, .inl (cI, 10, .inl o_wides)), (oq3, .inl (cI, 10, .inl o_lengths)), (oq4, .inl (cI, 10, .inl o_grades)), (sq3, .inl (cI, 10, .inl s_cameOn)), (sq4, .inl (cI, 100, .inl s_told)), (uq, .inr (1, [.ref uq1, .int u_usedOrders])), (uq1, .inl (cI, 10, .inl u_ordersOfPiece)), (hq, .inr (2, [.ref hq1, .ref hq2, .int h_heldOrders])), (hq1, .inl (cI, 10, .inl h_orderOfPiece)), (hq2, .inl (cI, 10, .inl h_lastDay)), (mq, .inr (3, [.ref mq1, .ref mq2, .ref mq3, .ref mq4, .ref mq5, .int m_pieceCount, .int m_orderCount, .int m_pairs, .int m_worthSum, .int m_upToDate])), (mq1, .inl (cI, 100, .inl m_gains)), (mq2, .inl (cI, 11264, .inl m_best)), (mq3, .inl (cI, 10, .inl m_chosen)), (mq4, .inl (cI, 10, .inl m_pieceDuals)), (mq5, .inl (cI, 10, .inl m_orderDuals))] U.heap ∧ va_K (dC, dI) classes [(cI, .int)] U ∧ nw U ∧ xE xTx U U.heap)) (xn k) := by
  unfold m_S_refuseUnknownPair at hm
  refine xt_ofW (cc := b_S_refuseUnknownPair) (maxL := 3) (ret := none) (by decide) rfl ?_
  intro p e s m args below meth c s₁ B hml hout hv
  obtain ⟨rfl, hP, hK, hN, hE⟩ := hv
  have hx := B.exec
  have hb := B.bytes
  have hr := B.returns
  have hts := atoms_spec (ws := w_S_refuseUnknownPair) B.pre
  have hown : s.vm.findClass R_S = some m.cls := findClass_of_methodNamed B.named
  have hlocks := B.notSynchronized
  have hk0 := hts (.fieldLink R_S 16 "SurplusMatch" "orders" "LSurplusMatch$Boards;") (List.mem_cons_of_mem _ (w0 142 rfl))
  have hk1 : ∀ w ∈ w_S, w ∈ w_S_refuseUnknownPair := fun w h => List.mem_cons_of_mem _ (i_S w h)
  have hk2 := hts (.classLink R_S 130 "java/lang/IndexOutOfBoundsException") (List.mem_cons_of_mem _ (w0 413 rfl))
  have hk3 := hts (.initialized "java/lang/IndexOutOfBoundsException") (List.mem_cons_of_mem _ (w0 39 rfl))
  have hl := lv_entry ([.ref sq, .int x1, .int x2]) (n := 3) (Nat.le_of_ble_eq_true rfl)
  rw [lg_entry_eq]
  generalize (lg_sl ([.ref sq, .int x1, .int x2]) ++ List.replicate (3 - (lg_sl ([.ref sq, .int x1, .int x2])).length) Slot.unset).toArray = ls at hl ⊢
  have hl : lv_has ls 3 [(0, .ref sq), (1, .int x1), (2, .int x2)] := hl
  refine lv_aload_n hx hb d_S_refuseUnknownPair_0 rfl (lv_at hl 0 rfl) ?_
  refine lv_iload_n hx hb d_S_refuseUnknownPair_1 rfl (lv_at hl 1 rfl) ?_
  obtain ⟨z9, hc, hm⟩ := bd hm
  rcases z9 with k9 | ⟨⟩
  · dsimp only [tk] at hm
    cases hm
    exact xt_runV (As := [.int x1]) (rest := []) ⟨hx, hb, hml, hown, hts⟩ (x_S_refuseUnknownPiece l dC dI cI sq pq pq1 pq2 pq3 pq4 oq oq1 oq2 oq3 oq4 sq3 sq4 uq uq1 hq hq1 hq2 mq mq1 mq2 mq3 mq4 mq5 p_thicks p_wides p_lengths p_grades p_count o_thicks o_wides o_lengths o_grades o_count s_cameOn s_told u_ordersOfPiece u_usedOrders h_orderOfPiece h_lastDay h_heldOrders m_gains m_best m_chosen m_pieceDuals m_orderDuals m_pieceCount m_orderCount m_pairs m_worthSum m_upToDate s_today s_cutOff s_agingOff s_saleAge x1 N _ hst hc) (cwV 1 hts (gV (w0 406 rfl) (w0 407 rfl) (w0 12 rfl) (w0 28 rfl) (w0 408 rfl)) rfl rfl rfl q_S_refuseUnknownPiece ⟨Nat.le_of_ble_eq_true rfl, Nat.le_of_ble_eq_true rfl⟩) (rx_preV [0, 1, 2, 3, 4, 5, 6, 7, 8, 9, 10, 11, 12, 13, 14, 15, 16, 17, 18, 19, 20, 21, 22, 23] rfl hK hP hN hE 4 0 (R_S, F_S, 11) rfl rfl) rfl rfl hl.1 rfl (lv_room (Nat.le_of_ble_eq_true rfl)) d_S_refuseUnknownPair_2 ⟨Nat.le_of_ble_eq_true rfl, Nat.le_of_ble_eq_true rfl⟩ (fun q ce H1 hce hcv hcl hz hk => xt_out hout hlocks hce hcv hcl)
  · dsimp only [tk] at hm
    refine va_csv (W.runV (As := [.int x1]) (rest := []) ⟨hx, hb, hml, hown, hts⟩ (c_S_refuseUnknownPiece l dC dI cI sq pq pq1 pq2 pq3 pq4 oq oq1 oq2 oq3 oq4 sq3 sq4 uq uq1 hq hq1 hq2 mq mq1 mq2 mq3 mq4 mq5 p_thicks p_wides p_lengths p_grades p_count o_thicks o_wides o_lengths o_grades o_count s_cameOn s_told u_ordersOfPiece u_usedOrders h_orderOfPiece h_lastDay h_heldOrders m_gains m_best m_chosen m_pieceDuals m_orderDuals m_pieceCount m_orderCount m_pairs m_worthSum m_upToDate s_today s_cutOff s_agingOff s_saleAge x1 N () hc) (cwV 1 hts (gV (w0 406 rfl) (w0 407 rfl) (w0 12 rfl) (w0 28 rfl) (w0 408 rfl)) rfl rfl rfl q_S_refuseUnknownPiece ⟨Nat.le_of_ble_eq_true rfl, Nat.le_of_ble_eq_true rfl⟩) (ro_preV [0, 1, 2, 3, 4, 5, 6, 7, 8, 9, 10, 11, 12, 13, 14, 15, 16, 17, 18, 19, 20, 21, 22, 23] rfl hK hP hN 4 0 (R_S, F_S, 11) rfl rfl) rfl rfl hl.1 rfl (lv_room (Nat.le_of_ble_eq_true rfl)) d_S_refuseUnknownPair_2 ⟨Nat.le_of_ble_eq_true rfl, Nat.le_of_ble_eq_true rfl⟩) (fun _ => ?_)
    refine lv_aload_n hx hb d_S_refuseUnknownPair_5 rfl (lv_at hl 0 rfl) ?_
    refine va_get (D := (dC, dI)) (ci := 4) (v := .ref oq) (C := R_S) (T := F_S) (N := 11) hx hb hts hk1 hown hK hP 0 rfl rfl 1 (by decide) hk0 (fun _ h9 => h9) rfl d_S_refuseUnknownPair_6 ?_
    refine lv_iload_n hx hb d_S_refuseUnknownPair_9 rfl (lv_at hl 2 rfl) ?_
    obtain ⟨r2, hc, hm⟩ := bd hm
    try dsimp only at hm
    refine vp_callSi (W.runV (As := [.int x2]) (rest := []) ⟨hx, hb, hml, hown, hts⟩ (c_B_has l dC dI cI oq oq1 oq2 oq3 oq4 o_thicks o_wides o_lengths o_grades o_count x2 N r2 hc) (cwV 1 hts (gV (w0 409 rfl) (w0 410 rfl) (w0 411 rfl) (w0 29 rfl) (w0 412 rfl)) rfl rfl rfl q_B_has ⟨Nat.le_of_ble_eq_true rfl, Nat.le_of_ble_eq_true rfl⟩) (ro_preV [6, 7, 8, 9, 10] rfl hK hP hN 0 0 (R_B, F_B, 5) rfl rfl) rfl rfl hl.1 rfl (lv_room (Nat.le_of_ble_eq_true rfl)) d_S_refuseUnknownPair_10 ⟨Nat.le_of_ble_eq_true rfl, Nat.le_of_ble_eq_true rfl⟩) (fun r9 hr9 => ?_)
    subst hr9
    refine lv_if_ne (tgt := 26) hx hb d_S_refuseUnknownPair_13 (by decide) (fun c9 => ?_) (fun c9 => ?_)
    · replace hm := if_f c9 hm
      cases hm
    · replace hm := if_t c9 hm
      cases hm
      obtain ⟨sa, hsa⟩ := hE.2.2.2.2 (230, "no such order") (List.mem_of_getElem? (i := 18) rfl)
      exact xt_throw (cls := "java/lang/IndexOutOfBoundsException") (names := xnm) hx hb hst hown (by decide +kernel) xnm_fit hk2 hk3 hsa (hat_0 hts hE) (hl.1.trans hml.symm) d_S_refuseUnknownPair_16 d_S_refuseUnknownPair_19 d_S_refuseUnknownPair_20 d_S_refuseUnknownPair_22 d_S_refuseUnknownPair_25 hout (Nat.le_of_ble_eq_true rfl) (Nat.le_of_ble_eq_true rfl) (Nat.le_of_ble_eq_true rfl) (Nat.le_of_ble_eq_true rfl) hlocks

def w_S_refuseMisfit : List Cond := .code y_S_refuseMisfit b_S_refuseMisfit 3 none :: W0
theorem q_S_refuseMisfit : y_S_refuseMisfit.cls = R_S ∧ y_S_refuseMisfit.cls ≠ "java/lang/invoke/MethodHandle" ∧ y_S_refuseMisfit.cls ≠ "java/lang/invoke/VarHandle" ∧ (parseMethodDescriptor y_S_refuseMisfit.desc).map (fun d => d.parameters.length) = some 2 := by decide +kernel
def m_S_refuseMisfit (p_thicks : Nat → Int32) (p_wides : Nat → Int32) (p_lengths : Nat → Int32) (p_grades : Nat → Int32) (o_thicks : Nat → Int32) (o_wides : Nat → Int32) (o_lengths : Nat → Int32) (o_grades : Nat → Int32) (x1 : Int32) (x2 : Int32) : Option (Nat ⊕ Unit) :=
  ((m_B_suits p_thicks p_wides p_lengths p_grades o_thicks o_wides o_lengths o_grades x1 x2).bind fun r1 =>
  (if r1 = 0 then
    some (.inl 3)
   else
    some (.inr ())))
set_option maxHeartbeats 4000000 in
set_option maxRecDepth 100000 in
theorem c_S_refuseMisfit (l : Launch) (dC : Nat → ClassId) (dI : Nat → Nat → Nat) (cI : ClassId) (sq pq pq1 pq2 pq3 pq4 oq oq1 oq2 oq3 oq4 sq3 sq4 uq uq1 hq hq1 hq2 mq mq1 mq2 mq3 mq4 mq5 : Nat) (p_thicks : Nat → Int32) (p_wides : Nat → Int32) (p_lengths : Nat → Int32) (p_grades : Nat → Int32) (p_count : Int32) (o_thicks : Nat → Int32) (o_wides : Nat → Int32) (o_lengths : Nat → Int32) (o_grades : Nat → Int32) (o_count : Int32) (s_cameOn : Nat → Int32) (s_told : Nat → Int32) (u_ordersOfPiece : Nat → Int32) (u_usedOrders : Int32) (h_orderOfPiece : Nat → Int32) (h_lastDay : Nat → Int32) (h_heldOrders : Int32) (m_gains : Nat → Int32) (m_best : Nat → Int32) (m_chosen : Nat → Int32) (m_pieceDuals : Nat → Int32) (m_orderDuals : Nat → Int32) (m_pieceCount : Int32) (m_orderCount : Int32) (m_pairs : Int32) (m_worthSum : Int32) (m_upToDate : Int32) (s_today : Int32) (s_cutOff : Int32) (s_agingOff : Int32) (s_saleAge : Int32) (x1 : Int32) (x2 : Int32) (N : Nat) (res : Unit) (hm : m_S_refuseMisfit p_thicks p_wides p_lengths p_grades o_thicks o_wides o_lengths o_grades x1 x2 = some (.inr res)) : Met l y_S_refuseMisfit w_S_refuseMisfit ({ frames := 1, cells := 0, slots := 0, locals := 23 } : Room) (va_Pc [.ref sq, .int x1, .int x2] (fun U => va_P (dC, dI) classes [(sq, .inr (4, [.ref pq, .ref oq, .ref sq3, .ref sq4, .ref uq, .ref hq, .ref mq, .int s_today, .int s_cutOff, .int s_agingOff, .int s_saleAge])), (pq, .inr (0, [.ref pq1, .ref pq2, .ref pq3, .ref pq4, .int p_count])), (pq1, .inl (cI, 10, .inl p_thicks)), (pq2, .inl (cI, 10, .inl p_wides)), (pq3, .inl (cI, 10, .inl p_lengths)), (pq4, .inl (cI, 10, .inl p_grades)), (oq, .inr (0, [.ref oq1, .ref oq2, .ref oq3, .ref oq4, .int o_count])), (oq1, .inl (cI, 10, .inl o_thicks)), (oq2, .inl (cI, 10, .inl o_wides)), (oq3, .inl (cI, 10, .inl o_lengths)), (oq4, .inl (cI, 10, .inl o_grades)), (sq3, .inl (cI, 10, .inl s_cameOn)), (sq4, .inl (cI, 100, .inl s_told)), (uq, .inr (1, [.ref uq1, .int u_usedOrders])), (uq1, .inl (cI, 10, .inl u_ordersOfPiece)), (hq, .inr (2, [.ref hq1, .ref hq2, .int h_heldOrders])), (hq1, .inl (cI, 10, .inl h_orderOfPiece)), (hq2, .inl (cI, 10, .inl h_lastDay)), (mq, .inr (3, [.ref mq1, .ref mq2, .ref mq3, .ref mq4, .ref mq5, .int m_pieceCount, .int m_orderCount, .int m_pairs, .int m_worthSum, .int m_upToDate])), (mq1, .inl (cI, 100, .inl m_gains)), (mq2, .inl (cI, 11264, .inl m_best)), (mq3, .inl (cI, 10, .inl m_chosen)), (mq4, .inl (cI, 10, .inl m_pieceDuals)), (mq5, .inl (cI, 10, .inl m_orderDuals))] U.heap ∧ va_K (dC, dI) classes [(cI, .int)] U ∧ nw U)) (va_Sv (fun _ => True)) 0 0 (fun _ => False) := by
  unfold m_S_refuseMisfit at hm
  refine Met.ofW (cc := b_S_refuseMisfit) (maxL := 3) (ret := none) (by decide) rfl ?_
  intro p e s m args below meth c s₁ B hml hv
  obtain ⟨rfl, hP, hK, hN⟩ := hv
  have hx := B.exec
  have hb := B.bytes
  have hr := B.returns
  have hts := atoms_spec (ws := w_S_refuseMisfit) B.pre
  have hown : s.vm.findClass R_S = some m.cls := findClass_of_methodNamed B.named
  have hlocks := B.notSynchronized
  have hk0 := hts (.fieldLink R_S 10 "SurplusMatch" "pieces" "LSurplusMatch$Boards;") (List.mem_cons_of_mem _ (w0 141 rfl))
  have hk1 : ∀ w ∈ w_S, w ∈ w_S_refuseMisfit := fun w h => List.mem_cons_of_mem _ (i_S w h)
  have hk2 := hts (.fieldLink R_S 16 "SurplusMatch" "orders" "LSurplusMatch$Boards;") (List.mem_cons_of_mem _ (w0 142 rfl))
  have hl := lv_entry ([.ref sq, .int x1, .int x2]) (n := 3) (Nat.le_of_ble_eq_true rfl)
  rw [lg_entry_eq]
  generalize (lg_sl ([.ref sq, .int x1, .int x2]) ++ List.replicate (3 - (lg_sl ([.ref sq, .int x1, .int x2])).length) Slot.unset).toArray = ls at hl ⊢
  have hl : lv_has ls 3 [(0, .ref sq), (1, .int x1), (2, .int x2)] := hl
  refine lv_aload_n hx hb d_S_refuseMisfit_0 rfl (lv_at hl 0 rfl) ?_
  refine va_get (D := (dC, dI)) (ci := 4) (v := .ref pq) (C := R_S) (T := F_S) (N := 11) hx hb hts hk1 hown hK hP 0 rfl rfl 0 (by decide) hk0 (fun _ h9 => h9) rfl d_S_refuseMisfit_1 ?_
  refine lv_iload_n hx hb d_S_refuseMisfit_4 rfl (lv_at hl 1 rfl) ?_
  refine lv_aload_n hx hb d_S_refuseMisfit_5 rfl (lv_at hl 0 rfl) ?_
  refine va_get (D := (dC, dI)) (ci := 4) (v := .ref oq) (C := R_S) (T := F_S) (N := 11) hx hb hts hk1 hown hK hP 0 rfl rfl 1 (by decide) hk2 (fun _ h9 => h9) rfl d_S_refuseMisfit_6 ?_
  refine lv_iload_n hx hb d_S_refuseMisfit_9 rfl (lv_at hl 2 rfl) ?_
  obtain ⟨r1, hc, hm⟩ := bd hm
  try dsimp only at hm
  refine vp_callSi (W.runV (As := [.int x1, .ref oq, .int x2]) (rest := []) ⟨hx, hb, hml, hown, hts⟩ (c_B_suits l dC dI cI pq pq1 pq2 pq3 pq4 oq oq1 oq2 oq3 oq4 p_thicks p_wides p_lengths p_grades p_count o_thicks o_wides o_lengths o_grades o_count x1 x2 N r1 hc) (cwV 3 hts (gV (w0 213 rfl) (w0 214 rfl) (w0 215 rfl) (w0 29 rfl) (w0 216 rfl)) rfl rfl rfl q_B_suits ⟨Nat.le_of_ble_eq_true rfl, Nat.le_of_ble_eq_true rfl⟩) (ro_preV [1, 2, 3, 4, 5, 6, 7, 8, 9, 10] rfl hK hP hN 0 0 (R_B, F_B, 5) rfl rfl) rfl rfl hl.1 rfl (lv_room (Nat.le_of_ble_eq_true rfl)) d_S_refuseMisfit_10 ⟨Nat.le_of_ble_eq_true rfl, Nat.le_of_ble_eq_true rfl⟩) (fun r9 hr9 => ?_)
  subst hr9
  refine lv_if_ne (tgt := 26) hx hb d_S_refuseMisfit_13 (by decide) (fun c9 => ?_) (fun c9 => ?_)
  · replace hm := if_f c9 hm
    cases hm
    exact W.vret hx hb hr (fun t ht hW => ⟨rfl, trivial, ht⟩) (fun _ h => nomatch h) d_S_refuseMisfit_26
  · replace hm := if_t c9 hm
    cases hm
set_option maxHeartbeats 4000000 in
set_option maxRecDepth 100000 in
theorem x_S_refuseMisfit (l : Launch) (dC : Nat → ClassId) (dI : Nat → Nat → Nat) (cI : ClassId) (sq pq pq1 pq2 pq3 pq4 oq oq1 oq2 oq3 oq4 sq3 sq4 uq uq1 hq hq1 hq2 mq mq1 mq2 mq3 mq4 mq5 : Nat) (p_thicks : Nat → Int32) (p_wides : Nat → Int32) (p_lengths : Nat → Int32) (p_grades : Nat → Int32) (p_count : Int32) (o_thicks : Nat → Int32) (o_wides : Nat → Int32) (o_lengths : Nat → Int32) (o_grades : Nat → Int32) (o_count : Int32) (s_cameOn : Nat → Int32) (s_told : Nat → Int32) (u_ordersOfPiece : Nat → Int32) (u_usedOrders : Int32) (h_orderOfPiece : Nat → Int32) (h_lastDay : Nat → Int32) (h_heldOrders : Int32) (m_gains : Nat → Int32) (m_best : Nat → Int32) (m_chosen : Nat → Int32) (m_pieceDuals : Nat → Int32) (m_orderDuals : Nat → Int32) (m_pieceCount : Int32) (m_orderCount : Int32) (m_pairs : Int32) (m_worthSum : Int32) (m_upToDate : Int32) (s_today : Int32) (s_cutOff : Int32) (s_agingOff : Int32) (s_saleAge : Int32) (x1 : Int32) (x2 : Int32) (N : Nat) (k : Nat) (hst : l.stackTraces = false) (hm : m_S_refuseMisfit p_thicks p_wides p_lengths p_grades o_thicks o_wides o_lengths o_grades x1 x2 = some (.inl k)) : xt_Met l y_S_refuseMisfit w_S_refuseMisfit ({ frames := 6, cells := 1, slots := 6, locals := 96 } : Room) (va_Pc [.ref sq, .int x1, .int x2] (fun U => va_P (dC, dI) classes [(sq, .inr (4, [.ref pq, .ref oq, .ref sq3, .ref sq4, .ref uq, .ref hq, .ref mq, .int s_today, .int s_cutOff, .int s_agingOff, .int s_saleAge])), (pq, .inr (0, [.ref pq1, .ref pq2, .ref pq3, .ref pq4, .int p_count])), (pq1, .inl (cI, 10, .inl p_thicks)), (pq2, .inl (cI, 10, .inl p_wides)), (pq3, .inl (cI, 10, .inl p_lengths)), (pq4, .inl (cI, 10, .inl p_grades)), (oq, .inr (0, [.ref oq1, .ref oq2, .ref oq3, .ref oq4, .int o_count])), (oq1, .inl (cI, 10, .inl o_thicks)), (oq2, .inl (cI, 10, .inl o_wides)), (oq3, .inl (cI, 10, .inl o_lengths)), (oq4, .inl (cI, 10, .inl o_grades)), (sq3, .inl (cI, 10, .inl s_cameOn)), (sq4, .inl (cI, 100, .inl s_told)), (uq, .inr (1, [.ref uq1, .int u_usedOrders])), (uq1, .inl (cI, 10, .inl u_ordersOfPiece)), (hq, .inr (2, [.ref hq1, .ref hq2, .int h_heldOrders])), (hq1, .inl (cI, 10, .inl h_orderOfPiece)), (hq2, .inl (cI, 10, .inl h_lastDay)), (mq, .inr (3, [.ref mq1, .ref mq2, .ref mq3, .ref mq4, .ref mq5, .int m_pieceCount, .int m_orderCount, .int m_pairs, .int m_worthSum, .int m_upToDate])), (mq1, .inl (cI, 100, .inl m_gains)), (mq2, .inl (cI, 11264, .inl m_best)), (mq3, .inl (cI, 10, .inl m_chosen)), (mq4, .inl (cI, 10, .inl m_pieceDuals)), (mq5, .inl (cI, 10, .inl m_orderDuals))] U.heap ∧ va_K (dC, dI) classes [(cI, .int)] U ∧ nw U ∧ xE xTx U U.heap)) (xn k) := by
  unfold m_S_refuseMisfit at hm
  refine xt_ofW (cc := b_S_refuseMisfit) (maxL := 3) (ret := none) (by decide) rfl ?_
  intro p e s m args below meth c s₁ B hml hout hv
  obtain ⟨rfl, hP, hK, hN, hE⟩ := hv
  have hx := B.exec
  have hb := B.bytes
  have hr := B.returns
  have hts := atoms_spec (ws := w_S_refuseMisfit) B.pre
  have hown : s.vm.findClass R_S = some m.cls := findClass_of_methodNamed B.named
  have hlocks := B.notSynchronized
  have hk0 := hts (.fieldLink R_S 10 "SurplusMatch" "pieces" "LSurplusMatch$Boards;") (List.mem_cons_of_mem _ (w0 141 rfl))
  have hk1 : ∀ w ∈ w_S, w ∈ w_S_refuseMisfit := fun w h => List.mem_cons_of_mem _ (i_S w h)
  have hk2 := hts (.fieldLink R_S 16 "SurplusMatch" "orders" "LSurplusMatch$Boards;") (List.mem_cons_of_mem _ (w0 142 rfl))
  have hk3 := hts (.classLink R_S 223 "java/lang/UnsupportedOperationException") (List.mem_cons_of_mem _ (w0 366 rfl))
  have hk4 := hts (.initialized "java/lang/UnsupportedOperationException") (List.mem_cons_of_mem _ (w0 38 rfl))
  have hl := lv_entry ([.ref sq, .int x1, .int x2]) (n := 3) (Nat.le_of_ble_eq_true rfl)
  rw [lg_entry_eq]
  generalize (lg_sl ([.ref sq, .int x1, .int x2]) ++ List.replicate (3 - (lg_sl ([.ref sq, .int x1, .int x2])).length) Slot.unset).toArray = ls at hl ⊢
  have hl : lv_has ls 3 [(0, .ref sq), (1, .int x1), (2, .int x2)] := hl
  refine lv_aload_n hx hb d_S_refuseMisfit_0 rfl (lv_at hl 0 rfl) ?_
  refine va_get (D := (dC, dI)) (ci := 4) (v := .ref pq) (C := R_S) (T := F_S) (N := 11) hx hb hts hk1 hown hK hP 0 rfl rfl 0 (by decide) hk0 (fun _ h9 => h9) rfl d_S_refuseMisfit_1 ?_
  refine lv_iload_n hx hb d_S_refuseMisfit_4 rfl (lv_at hl 1 rfl) ?_
  refine lv_aload_n hx hb d_S_refuseMisfit_5 rfl (lv_at hl 0 rfl) ?_
  refine va_get (D := (dC, dI)) (ci := 4) (v := .ref oq) (C := R_S) (T := F_S) (N := 11) hx hb hts hk1 hown hK hP 0 rfl rfl 1 (by decide) hk2 (fun _ h9 => h9) rfl d_S_refuseMisfit_6 ?_
  refine lv_iload_n hx hb d_S_refuseMisfit_9 rfl (lv_at hl 2 rfl) ?_
  obtain ⟨r1, hc, hm⟩ := bd hm
  try dsimp only at hm
  refine vp_callSi (W.runV (As := [.int x1, .ref oq, .int x2]) (rest := []) ⟨hx, hb, hml, hown, hts⟩ (c_B_suits l dC dI cI pq pq1 pq2 pq3 pq4 oq oq1 oq2 oq3 oq4 p_thicks p_wides p_lengths p_grades p_count o_thicks o_wides o_lengths o_grades o_count x1 x2 N r1 hc) (cwV 3 hts (gV (w0 213 rfl) (w0 214 rfl) (w0 215 rfl) (w0 29 rfl) (w0 216 rfl)) rfl rfl rfl q_B_suits ⟨Nat.le_of_ble_eq_true rfl, Nat.le_of_ble_eq_true rfl⟩) (ro_preV [1, 2, 3, 4, 5, 6, 7, 8, 9, 10] rfl hK hP hN 0 0 (R_B, F_B, 5) rfl rfl) rfl rfl hl.1 rfl (lv_room (Nat.le_of_ble_eq_true rfl)) d_S_refuseMisfit_10 ⟨Nat.le_of_ble_eq_true rfl, Nat.le_of_ble_eq_true rfl⟩) (fun r9 hr9 => ?_)
  subst hr9
  refine lv_if_ne (tgt := 26) hx hb d_S_refuseMisfit_13 (by decide) (fun c9 => ?_) (fun c9 => ?_)
  · replace hm := if_f c9 hm
    cases hm
  · replace hm := if_t c9 hm
    cases hm
    obtain ⟨sa, hsa⟩ := hE.2.2.2.2 (234, "the piece does not fit the order") (List.mem_of_getElem? (i := 20) rfl)
    exact xt_throw (cls := "java/lang/UnsupportedOperationException") (names := xnm) hx hb hst hown (by decide +kernel) xnm_fit hk3 hk4 hsa (hat_3 hts hE) (hl.1.trans hml.symm) d_S_refuseMisfit_16 d_S_refuseMisfit_19 d_S_refuseMisfit_20 d_S_refuseMisfit_22 d_S_refuseMisfit_25 hout (Nat.le_of_ble_eq_true rfl) (Nat.le_of_ble_eq_true rfl) (Nat.le_of_ble_eq_true rfl) (Nat.le_of_ble_eq_true rfl) hlocks

