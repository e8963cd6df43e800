-- ===== PART A: goes FIRST, ahead of the names: the tables' words, and 'selects' of the private methods out of them =====
/-- a private method of a class that the tables say can be made, by its rows of tables_1 -/
def lw_okq (q : MethodName × Nat) : Prop := (q.1.cls ≠ "java/lang/invoke/MethodHandle" ∧ q.1.cls ≠ "java/lang/invoke/VarHandle") ∧ Cond.instantiable q.1.cls q.2 ∈ tables_1 ∧ Cond.privateMethod q.1 ∈ tables_1 ∧ Cond.instanceMethod q.1 ∈ tables_1
theorem lw_p0 : lw_okq (⟨"SurplusMatch", "offerPairs", "()V"⟩, 11) := ⟨⟨by decide +kernel, by decide +kernel⟩, List.mem_of_getElem? (i := 18) (by decide +kernel), List.mem_of_getElem? (i := 153) (by decide +kernel), List.mem_of_getElem? (i := 154) (by decide +kernel)⟩
theorem lw_p1 : lw_okq (⟨"SurplusMatch", "mayPair", "(II)Z"⟩, 11) := ⟨⟨by decide +kernel, by decide +kernel⟩, List.mem_of_getElem? (i := 18) (by decide +kernel), List.mem_of_getElem? (i := 165) (by decide +kernel), List.mem_of_getElem? (i := 166) (by decide +kernel)⟩
theorem lw_p2 : lw_okq (⟨"SurplusMatch", "worthToday", "(II)I"⟩, 11) := ⟨⟨by decide +kernel, by decide +kernel⟩, List.mem_of_getElem? (i := 18) (by decide +kernel), List.mem_of_getElem? (i := 193) (by decide +kernel), List.mem_of_getElem? (i := 194) (by decide +kernel)⟩
theorem lw_p3 : lw_okq (⟨"SurplusMatch", "ageOf", "(I)I"⟩, 11) := ⟨⟨by decide +kernel, by decide +kernel⟩, List.mem_of_getElem? (i := 18) (by decide +kernel), List.mem_of_getElem? (i := 201) (by decide +kernel), List.mem_of_getElem? (i := 202) (by decide +kernel)⟩
theorem lw_p4 : lw_okq (⟨"SurplusMatch$Matching", "fillBest", "()V"⟩, 10) := ⟨⟨by decide +kernel, by decide +kernel⟩, List.mem_of_getElem? (i := 78) (by decide +kernel), List.mem_of_getElem? (i := 220) (by decide +kernel), List.mem_of_getElem? (i := 221) (by decide +kernel)⟩
theorem lw_p5 : lw_okq (⟨"SurplusMatch$Matching", "improveRow", "(III)V"⟩, 10) := ⟨⟨by decide +kernel, by decide +kernel⟩, List.mem_of_getElem? (i := 78) (by decide +kernel), List.mem_of_getElem? (i := 227) (by decide +kernel), List.mem_of_getElem? (i := 228) (by decide +kernel)⟩
theorem lw_p6 : lw_okq (⟨"SurplusMatch$Matching", "choose", "()V"⟩, 10) := ⟨⟨by decide +kernel, by decide +kernel⟩, List.mem_of_getElem? (i := 78) (by decide +kernel), List.mem_of_getElem? (i := 231) (by decide +kernel), List.mem_of_getElem? (i := 232) (by decide +kernel)⟩
theorem lw_p7 : lw_okq (⟨"SurplusMatch$Matching", "allOrders", "()I"⟩, 10) := ⟨⟨by decide +kernel, by decide +kernel⟩, List.mem_of_getElem? (i := 78) (by decide +kernel), List.mem_of_getElem? (i := 235) (by decide +kernel), List.mem_of_getElem? (i := 236) (by decide +kernel)⟩
theorem lw_p8 : lw_okq (⟨"SurplusMatch$Matching", "lowestOfBest", "(II)I"⟩, 10) := ⟨⟨by decide +kernel, by decide +kernel⟩, List.mem_of_getElem? (i := 78) (by decide +kernel), List.mem_of_getElem? (i := 239) (by decide +kernel), List.mem_of_getElem? (i := 240) (by decide +kernel)⟩
theorem lw_p9 : lw_okq (⟨"SurplusMatch$Matching", "prove", "()V"⟩, 10) := ⟨⟨by decide +kernel, by decide +kernel⟩, List.mem_of_getElem? (i := 78) (by decide +kernel), List.mem_of_getElem? (i := 243) (by decide +kernel), List.mem_of_getElem? (i := 244) (by decide +kernel)⟩
theorem lw_p10 : lw_okq (⟨"SurplusMatch", "cutPiece", "(II)V"⟩, 11) := ⟨⟨by decide +kernel, by decide +kernel⟩, List.mem_of_getElem? (i := 18) (by decide +kernel), List.mem_of_getElem? (i := 251) (by decide +kernel), List.mem_of_getElem? (i := 252) (by decide +kernel)⟩
theorem lw_p11 : lw_okq (⟨"java/lang/Throwable", "fillInStackTrace", "(I)Ljava/lang/Throwable;"⟩, 6) := ⟨⟨by decide +kernel, by decide +kernel⟩, List.mem_of_getElem? (i := 329) (by decide +kernel), List.mem_of_getElem? (i := 327) (by decide +kernel), List.mem_of_getElem? (i := 328) (by decide +kernel)⟩
theorem lw_p12 : lw_okq (⟨"SurplusMatch", "refuseUnknownPair", "(II)V"⟩, 11) := ⟨⟨by decide +kernel, by decide +kernel⟩, List.mem_of_getElem? (i := 18) (by decide +kernel), List.mem_of_getElem? (i := 403) (by decide +kernel), List.mem_of_getElem? (i := 404) (by decide +kernel)⟩
theorem lw_p13 : lw_okq (⟨"SurplusMatch", "refuseUnknownPiece", "(I)V"⟩, 11) := ⟨⟨by decide +kernel, by decide +kernel⟩, List.mem_of_getElem? (i := 18) (by decide +kernel), List.mem_of_getElem? (i := 407) (by decide +kernel), List.mem_of_getElem? (i := 408) (by decide +kernel)⟩
theorem lw_p14 : lw_okq (⟨"SurplusMatch", "refuseMisfit", "(II)V"⟩, 11) := ⟨⟨by decide +kernel, by decide +kernel⟩, List.mem_of_getElem? (i := 18) (by decide +kernel), List.mem_of_getElem? (i := 434) (by decide +kernel), List.mem_of_getElem? (i := 435) (by decide +kernel)⟩
theorem lw_p15 : lw_okq (⟨"SurplusMatch", "bestSet", "(I)I"⟩, 11) := ⟨⟨by decide +kernel, by decide +kernel⟩, List.mem_of_getElem? (i := 18) (by decide +kernel), List.mem_of_getElem? (i := 510) (by decide +kernel), List.mem_of_getElem? (i := 511) (by decide +kernel)⟩
def lw_privs_1 : List (MethodName × Nat) := [(⟨"SurplusMatch", "offerPairs", "()V"⟩, 11), (⟨"SurplusMatch", "mayPair", "(II)Z"⟩, 11), (⟨"SurplusMatch", "worthToday", "(II)I"⟩, 11), (⟨"SurplusMatch", "ageOf", "(I)I"⟩, 11), (⟨"SurplusMatch$Matching", "fillBest", "()V"⟩, 10), (⟨"SurplusMatch$Matching", "improveRow", "(III)V"⟩, 10), (⟨"SurplusMatch$Matching", "choose", "()V"⟩, 10), (⟨"SurplusMatch$Matching", "allOrders", "()I"⟩, 10), (⟨"SurplusMatch$Matching", "lowestOfBest", "(II)I"⟩, 10), (⟨"SurplusMatch$Matching", "prove", "()V"⟩, 10), (⟨"SurplusMatch", "cutPiece", "(II)V"⟩, 11), (⟨"java/lang/Throwable", "fillInStackTrace", "(I)Ljava/lang/Throwable;"⟩, 6), (⟨"SurplusMatch", "refuseUnknownPair", "(II)V"⟩, 11), (⟨"SurplusMatch", "refuseUnknownPiece", "(I)V"⟩, 11), (⟨"SurplusMatch", "refuseMisfit", "(II)V"⟩, 11), (⟨"SurplusMatch", "bestSet", "(I)I"⟩, 11)]
theorem lw_r1 : ∀ q ∈ lw_privs_1, lw_okq q := List.forall_mem_cons.mpr ⟨lw_p0, List.forall_mem_cons.mpr ⟨lw_p1, List.forall_mem_cons.mpr ⟨lw_p2, List.forall_mem_cons.mpr ⟨lw_p3, List.forall_mem_cons.mpr ⟨lw_p4, List.forall_mem_cons.mpr ⟨lw_p5, List.forall_mem_cons.mpr ⟨lw_p6, List.forall_mem_cons.mpr ⟨lw_p7, List.forall_mem_cons.mpr ⟨lw_p8, List.forall_mem_cons.mpr ⟨lw_p9, List.forall_mem_cons.mpr ⟨lw_p10, List.forall_mem_cons.mpr ⟨lw_p11, List.forall_mem_cons.mpr ⟨lw_p12, List.forall_mem_cons.mpr ⟨lw_p13, List.forall_mem_cons.mpr ⟨lw_p14, List.forall_mem_cons.mpr ⟨lw_p15, fun _ h => absurd h List.not_mem_nil⟩⟩⟩⟩⟩⟩⟩⟩⟩⟩⟩⟩⟩⟩⟩⟩
theorem lw_p16 : lw_okq (⟨"SurplusMatch", "openOrders", "(I)I"⟩, 11) := ⟨⟨by decide +kernel, by decide +kernel⟩, List.mem_of_getElem? (i := 18) (by decide +kernel), List.mem_of_getElem? (i := 514) (by decide +kernel), List.mem_of_getElem? (i := 515) (by decide +kernel)⟩
theorem lw_p17 : lw_okq (⟨"SurplusMatch", "totalWorth", "(II)I"⟩, 11) := ⟨⟨by decide +kernel, by decide +kernel⟩, List.mem_of_getElem? (i := 18) (by decide +kernel), List.mem_of_getElem? (i := 532) (by decide +kernel), List.mem_of_getElem? (i := 533) (by decide +kernel)⟩
theorem lw_p18 : lw_okq (⟨"SurplusMatch", "isForSale", "(I)Z"⟩, 11) := ⟨⟨by decide +kernel, by decide +kernel⟩, List.mem_of_getElem? (i := 18) (by decide +kernel), List.mem_of_getElem? (i := 596) (by decide +kernel), List.mem_of_getElem? (i := 597) (by decide +kernel)⟩
theorem lw_p19 : lw_okq (⟨"SurplusMatchModel", "goes", "(ZZZZ)Z"⟩, 20) := ⟨⟨by decide +kernel, by decide +kernel⟩, List.mem_of_getElem? (i := 614) (by decide +kernel), List.mem_of_getElem? (i := 697) (by decide +kernel), List.mem_of_getElem? (i := 698) (by decide +kernel)⟩
theorem lw_p20 : lw_okq (⟨"SurplusMatchModel", "isPiece", "(I)Z"⟩, 20) := ⟨⟨by decide +kernel, by decide +kernel⟩, List.mem_of_getElem? (i := 614) (by decide +kernel), List.mem_of_getElem? (i := 709) (by decide +kernel), List.mem_of_getElem? (i := 710) (by decide +kernel)⟩
theorem lw_p21 : lw_okq (⟨"SurplusMatchModel", "isOrder", "(I)Z"⟩, 20) := ⟨⟨by decide +kernel, by decide +kernel⟩, List.mem_of_getElem? (i := 614) (by decide +kernel), List.mem_of_getElem? (i := 713) (by decide +kernel), List.mem_of_getElem? (i := 714) (by decide +kernel)⟩
theorem lw_p22 : lw_okq (⟨"SurplusMatchModel", "isFit", "(II)Z"⟩, 20) := ⟨⟨by decide +kernel, by decide +kernel⟩, List.mem_of_getElem? (i := 614) (by decide +kernel), List.mem_of_getElem? (i := 718) (by decide +kernel), List.mem_of_getElem? (i := 719) (by decide +kernel)⟩
theorem lw_p23 : lw_okq (⟨"SurplusMatchModel", "netOf", "(II)I"⟩, 20) := ⟨⟨by decide +kernel, by decide +kernel⟩, List.mem_of_getElem? (i := 614) (by decide +kernel), List.mem_of_getElem? (i := 734) (by decide +kernel), List.mem_of_getElem? (i := 735) (by decide +kernel)⟩
theorem lw_p24 : lw_okq (⟨"SurplusMatchModel", "fill", "(I)V"⟩, 20) := ⟨⟨by decide +kernel, by decide +kernel⟩, List.mem_of_getElem? (i := 614) (by decide +kernel), List.mem_of_getElem? (i := 742) (by decide +kernel), List.mem_of_getElem? (i := 743) (by decide +kernel)⟩
theorem lw_p25 : lw_okq (⟨"SurplusMatchModel", "can", "(II)Z"⟩, 20) := ⟨⟨by decide +kernel, by decide +kernel⟩, List.mem_of_getElem? (i := 614) (by decide +kernel), List.mem_of_getElem? (i := 746) (by decide +kernel), List.mem_of_getElem? (i := 747) (by decide +kernel)⟩
theorem lw_p26 : lw_okq (⟨"SurplusMatchModel", "reservation", "(I)I"⟩, 20) := ⟨⟨by decide +kernel, by decide +kernel⟩, List.mem_of_getElem? (i := 614) (by decide +kernel), List.mem_of_getElem? (i := 750) (by decide +kernel), List.mem_of_getElem? (i := 751) (by decide +kernel)⟩
theorem lw_p27 : lw_okq (⟨"SurplusMatchModel", "holder", "(I)I"⟩, 20) := ⟨⟨by decide +kernel, by decide +kernel⟩, List.mem_of_getElem? (i := 614) (by decide +kernel), List.mem_of_getElem? (i := 754) (by decide +kernel), List.mem_of_getElem? (i := 755) (by decide +kernel)⟩
def lw_privs_2 : List (MethodName × Nat) := [(⟨"SurplusMatch", "openOrders", "(I)I"⟩, 11), (⟨"SurplusMatch", "totalWorth", "(II)I"⟩, 11), (⟨"SurplusMatch", "isForSale", "(I)Z"⟩, 11), (⟨"SurplusMatchModel", "goes", "(ZZZZ)Z"⟩, 20), (⟨"SurplusMatchModel", "isPiece", "(I)Z"⟩, 20), (⟨"SurplusMatchModel", "isOrder", "(I)Z"⟩, 20), (⟨"SurplusMatchModel", "isFit", "(II)Z"⟩, 20), (⟨"SurplusMatchModel", "netOf", "(II)I"⟩, 20), (⟨"SurplusMatchModel", "fill", "(I)V"⟩, 20), (⟨"SurplusMatchModel", "can", "(II)Z"⟩, 20), (⟨"SurplusMatchModel", "reservation", "(I)I"⟩, 20), (⟨"SurplusMatchModel", "holder", "(I)I"⟩, 20)]
theorem lw_r2 : ∀ q ∈ lw_privs_2, lw_okq q := List.forall_mem_cons.mpr ⟨lw_p16, List.forall_mem_cons.mpr ⟨lw_p17, List.forall_mem_cons.mpr ⟨lw_p18, List.forall_mem_cons.mpr ⟨lw_p19, List.forall_mem_cons.mpr ⟨lw_p20, List.forall_mem_cons.mpr ⟨lw_p21, List.forall_mem_cons.mpr ⟨lw_p22, List.forall_mem_cons.mpr ⟨lw_p23, List.forall_mem_cons.mpr ⟨lw_p24, List.forall_mem_cons.mpr ⟨lw_p25, List.forall_mem_cons.mpr ⟨lw_p26, List.forall_mem_cons.mpr ⟨lw_p27, fun _ h => absurd h List.not_mem_nil⟩⟩⟩⟩⟩⟩⟩⟩⟩⟩⟩⟩
def lw_privs : List (MethodName × Nat) := lw_privs_1 ++ (lw_privs_2)
def lw_tbl : List Cond := k2_sels lw_privs ++ tables_1
theorem lw_privs_ok : ∀ q ∈ lw_privs, lw_okq q := by
  show ∀ q ∈ lw_privs_1 ++ (lw_privs_2), lw_okq q
  exact List.forall_mem_append.mpr ⟨lw_r1, lw_r2⟩
-- ===== end of PART A; then your names; then what follows =====
/-! names: classes, fields in the order of the slots, methods; the words that every contract here shares (W0) -/
def R_B : String := "SurplusMatch$Boards"
def F_B : u_T := fun k => match k with
  | 0 => ("SurplusMatch$Boards", "thicks", "[I", true)
  | 1 => ("SurplusMatch$Boards", "wides", "[I", true)
  | 2 => ("SurplusMatch$Boards", "lengths", "[I", true)
  | 3 => ("SurplusMatch$Boards", "grades", "[I", true)
  | _ => ("SurplusMatch$Boards", "count", "I", false)
def t_B : Nat → FieldType := fun k => match k with
  | 0 => .array .int
  | 1 => .array .int
  | 2 => .array .int
  | 3 => .array .int
  | _ => .int
abbrev w_B : List Cond := u_ws R_B F_B 5
theorem n_B : ∀ a, a < 5 → ∀ b, b < 5 → a ≠ b → (F_B a).2.1 ≠ (F_B b).2.1 := by decide +kernel
theorem t_B_ok : ∀ k, k < 5 → parseFieldDescriptor (F_B k).2.2.1 = some (t_B k) := by decide +kernel
def y_B_init : MethodName := ⟨"SurplusMatch$Boards", "<init>", "()V"⟩
abbrev b_B_init : ByteArray := prog_2_method_1_code
def y_B_size : MethodName := ⟨"SurplusMatch$Boards", "size", "()I"⟩
abbrev b_B_size : ByteArray := prog_2_method_2_code
def y_B_has : MethodName := ⟨"SurplusMatch$Boards", "has", "(I)Z"⟩
abbrev b_B_has : ByteArray := prog_2_method_3_code
def y_B_isFull : MethodName := ⟨"SurplusMatch$Boards", "isFull", "()Z"⟩
abbrev b_B_isFull : ByteArray := prog_2_method_4_code
def y_B_add : MethodName := ⟨"SurplusMatch$Boards", "add", "(IIII)I"⟩
abbrev b_B_add : ByteArray := prog_2_method_5_code
def y_B_suits : MethodName := ⟨"SurplusMatch$Boards", "suits", "(ILSurplusMatch$Boards;I)Z"⟩
abbrev b_B_suits : ByteArray := prog_2_method_6_code
def y_B_sidesToCut : MethodName := ⟨"SurplusMatch$Boards", "sidesToCut", "(ILSurplusMatch$Boards;I)I"⟩
abbrev b_B_sidesToCut : ByteArray := prog_2_method_7_code
def y_B_lengthOf : MethodName := ⟨"SurplusMatch$Boards", "lengthOf", "(I)I"⟩
abbrev b_B_lengthOf : ByteArray := prog_2_method_8_code
def y_B_totalLength : MethodName := ⟨"SurplusMatch$Boards", "totalLength", "(I)I"⟩
abbrev b_B_totalLength : ByteArray := prog_2_method_9_code
def R_U : String := "SurplusMatch$Uses"
def F_U : u_T := fun k => match k with
  | 0 => ("SurplusMatch$Uses", "ordersOfPiece", "[I", true)
  | _ => ("SurplusMatch$Uses", "usedOrders", "I", false)
def t_U : Nat → FieldType := fun k => match k with
  | 0 => .array .int
  | _ => .int
abbrev w_U : List Cond := u_ws R_U F_U 2
theorem n_U : ∀ a, a < 2 → ∀ b, b < 2 → a ≠ b → (F_U a).2.1 ≠ (F_U b).2.1 := by decide +kernel
theorem t_U_ok : ∀ k, k < 2 → parseFieldDescriptor (F_U k).2.2.1 = some (t_U k) := by decide +kernel
def y_U_init : MethodName := ⟨"SurplusMatch$Uses", "<init>", "()V"⟩
abbrev b_U_init : ByteArray := prog_5_method_1_code
def y_U_isPieceUsed : MethodName := ⟨"SurplusMatch$Uses", "isPieceUsed", "(I)Z"⟩
abbrev b_U_isPieceUsed : ByteArray := prog_5_method_2_code
def y_U_isOrderUsed : MethodName := ⟨"SurplusMatch$Uses", "isOrderUsed", "(I)Z"⟩
abbrev b_U_isOrderUsed : ByteArray := prog_5_method_3_code
def y_U_use : MethodName := ⟨"SurplusMatch$Uses", "use", "(II)V"⟩
abbrev b_U_use : ByteArray := prog_5_method_4_code
def y_U_free : MethodName := ⟨"SurplusMatch$Uses", "free", "(I)V"⟩
abbrev b_U_free : ByteArray := prog_5_method_5_code
def y_U_orderAt : MethodName := ⟨"SurplusMatch$Uses", "orderAt", "(II)I"⟩
abbrev b_U_orderAt : ByteArray := prog_5_method_6_code
def R_H : String := "SurplusMatch$Holds"
def F_H : u_T := fun k => match k with
  | 0 => ("SurplusMatch$Holds", "orderOfPiece", "[I", true)
  | 1 => ("SurplusMatch$Holds", "lastDay", "[I", true)
  | _ => ("SurplusMatch$Holds", "heldOrders", "I", false)
def t_H : Nat → FieldType := fun k => match k with
  | 0 => .array .int
  | 1 => .array .int
  | _ => .int
abbrev w_H : List Cond := u_ws R_H F_H 3
theorem n_H : ∀ a, a < 3 → ∀ b, b < 3 → a ≠ b → (F_H a).2.1 ≠ (F_H b).2.1 := by decide +kernel
theorem t_H_ok : ∀ k, k < 3 → parseFieldDescriptor (F_H k).2.2.1 = some (t_H k) := by decide +kernel
def y_H_init : MethodName := ⟨"SurplusMatch$Holds", "<init>", "()V"⟩
abbrev b_H_init : ByteArray := prog_3_method_1_code
def y_H_orderHeldBy : MethodName := ⟨"SurplusMatch$Holds", "orderHeldBy", "(I)I"⟩
abbrev b_H_orderHeldBy : ByteArray := prog_3_method_2_code
def y_H_isPieceHeld : MethodName := ⟨"SurplusMatch$Holds", "isPieceHeld", "(I)Z"⟩
abbrev b_H_isPieceHeld : ByteArray := prog_3_method_3_code
def y_H_isOrderHeld : MethodName := ⟨"SurplusMatch$Holds", "isOrderHeld", "(I)Z"⟩
abbrev b_H_isOrderHeld : ByteArray := prog_3_method_4_code
def y_H_lets : MethodName := ⟨"SurplusMatch$Holds", "lets", "(II)Z"⟩
abbrev b_H_lets : ByteArray := prog_3_method_5_code
def y_H_hold : MethodName := ⟨"SurplusMatch$Holds", "hold", "(III)V"⟩
abbrev b_H_hold : ByteArray := prog_3_method_6_code
def y_H_drop : MethodName := ⟨"SurplusMatch$Holds", "drop", "(I)V"⟩
abbrev b_H_drop : ByteArray := prog_3_method_7_code
def y_H_dropBefore : MethodName := ⟨"SurplusMatch$Holds", "dropBefore", "(I)V"⟩
abbrev b_H_dropBefore : ByteArray := prog_3_method_8_code
def R_M : String := "SurplusMatch$Matching"
def F_M : u_T := fun k => match k with
  | 0 => ("SurplusMatch$Matching", "gains", "[I", true)
  | 1 => ("SurplusMatch$Matching", "best", "[I", true)
  | 2 => ("SurplusMatch$Matching", "chosen", "[I", true)
  | 3 => ("SurplusMatch$Matching", "pieceDuals", "[I", true)
  | 4 => ("SurplusMatch$Matching", "orderDuals", "[I", true)
  | 5 => ("SurplusMatch$Matching", "pieceCount", "I", false)
  | 6 => ("SurplusMatch$Matching", "orderCount", "I", false)
  | 7 => ("SurplusMatch$Matching", "pairs", "I", false)
  | 8 => ("SurplusMatch$Matching", "worthSum", "I", false)
  | _ => ("SurplusMatch$Matching", "upToDate", "Z", false)
def t_M : Nat → FieldType := fun k => match k with
  | 0 => .array .int
  | 1 => .array .int
  | 2 => .array .int
  | 3 => .array .int
  | 4 => .array .int
  | 5 => .int
  | 6 => .int
  | 7 => .int
  | 8 => .int
  | _ => .boolean
abbrev w_M : List Cond := u_ws R_M F_M 10
theorem n_M : ∀ a, a < 10 → ∀ b, b < 10 → a ≠ b → (F_M a).2.1 ≠ (F_M b).2.1 := by decide +kernel
theorem t_M_ok : ∀ k, k < 10 → parseFieldDescriptor (F_M k).2.2.1 = some (t_M k) := by decide +kernel
def y_M_init : MethodName := ⟨"SurplusMatch$Matching", "<init>", "()V"⟩
abbrev b_M_init : ByteArray := prog_4_method_1_code
def y_M_outdate : MethodName := ⟨"SurplusMatch$Matching", "outdate", "()V"⟩
abbrev b_M_outdate : ByteArray := prog_4_method_2_code
def y_M_isUpToDate : MethodName := ⟨"SurplusMatch$Matching", "isUpToDate", "()Z"⟩
abbrev b_M_isUpToDate : ByteArray := prog_4_method_3_code
def y_M_pairCount : MethodName := ⟨"SurplusMatch$Matching", "pairCount", "()I"⟩
abbrev b_M_pairCount : ByteArray := prog_4_method_4_code
def y_M_bestSum : MethodName := ⟨"SurplusMatch$Matching", "bestSum", "()I"⟩
abbrev b_M_bestSum : ByteArray := prog_4_method_5_code
def y_M_chosenFor : MethodName := ⟨"SurplusMatch$Matching", "chosenFor", "(I)I"⟩
abbrev b_M_chosenFor : ByteArray := prog_4_method_6_code
def y_M_dualOfPiece : MethodName := ⟨"SurplusMatch$Matching", "dualOfPiece", "(I)I"⟩
abbrev b_M_dualOfPiece : ByteArray := prog_4_method_7_code
def y_M_dualOfOrder : MethodName := ⟨"SurplusMatch$Matching", "dualOfOrder", "(I)I"⟩
abbrev b_M_dualOfOrder : ByteArray := prog_4_method_8_code
def y_M_clearOffers : MethodName := ⟨"SurplusMatch$Matching", "clearOffers", "()V"⟩
abbrev b_M_clearOffers : ByteArray := prog_4_method_9_code
def y_M_offer : MethodName := ⟨"SurplusMatch$Matching", "offer", "(III)V"⟩
abbrev b_M_offer : ByteArray := prog_4_method_10_code
def y_M_solve : MethodName := ⟨"SurplusMatch$Matching", "solve", "(II)V"⟩
abbrev b_M_solve : ByteArray := prog_4_method_11_code
def y_M_fillBest : MethodName := ⟨"SurplusMatch$Matching", "fillBest", "()V"⟩
abbrev b_M_fillBest : ByteArray := prog_4_method_12_code
def y_M_improveRow : MethodName := ⟨"SurplusMatch$Matching", "improveRow", "(III)V"⟩
abbrev b_M_improveRow : ByteArray := prog_4_method_13_code
def y_M_choose : MethodName := ⟨"SurplusMatch$Matching", "choose", "()V"⟩
abbrev b_M_choose : ByteArray := prog_4_method_14_code
def y_M_lowestOfBest : MethodName := ⟨"SurplusMatch$Matching", "lowestOfBest", "(II)I"⟩
abbrev b_M_lowestOfBest : ByteArray := prog_4_method_15_code
def y_M_prove : MethodName := ⟨"SurplusMatch$Matching", "prove", "()V"⟩
abbrev b_M_prove : ByteArray := prog_4_method_16_code
def y_M_allOrders : MethodName := ⟨"SurplusMatch$Matching", "allOrders", "()I"⟩
abbrev b_M_allOrders : ByteArray := prog_4_method_17_code
def R_S : String := "SurplusMatch"
def F_S : u_T := fun k => match k with
  | 0 => ("SurplusMatch", "pieces", "LSurplusMatch$Boards;", true)
  | 1 => ("SurplusMatch", "orders", "LSurplusMatch$Boards;", true)
  | 2 => ("SurplusMatch", "cameOn", "[I", true)
  | 3 => ("SurplusMatch", "told", "[I", true)
  | 4 => ("SurplusMatch", "uses", "LSurplusMatch$Uses;", true)
  | 5 => ("SurplusMatch", "holds", "LSurplusMatch$Holds;", true)
  | 6 => ("SurplusMatch", "matching", "LSurplusMatch$Matching;", true)
  | 7 => ("SurplusMatch", "today", "I", false)
  | 8 => ("SurplusMatch", "cutOff", "I", false)
  | 9 => ("SurplusMatch", "agingOff", "I", false)
  | _ => ("SurplusMatch", "saleAge", "I", false)
def t_S : Nat → FieldType := fun k => match k with
  | 0 => .object "SurplusMatch$Boards"
  | 1 => .object "SurplusMatch$Boards"
  | 2 => .array .int
  | 3 => .array .int
  | 4 => .object "SurplusMatch$Uses"
  | 5 => .object "SurplusMatch$Holds"
  | 6 => .object "SurplusMatch$Matching"
  | 7 => .int
  | 8 => .int
  | 9 => .int
  | _ => .int
abbrev w_S : List Cond := u_ws R_S F_S 11
theorem n_S : ∀ a, a < 11 → ∀ b, b < 11 → a ≠ b → (F_S a).2.1 ≠ (F_S b).2.1 := by decide +kernel
theorem t_S_ok : ∀ k, k < 11 → parseFieldDescriptor (F_S k).2.2.1 = some (t_S k) := by decide +kernel
def y_S_init : MethodName := ⟨"SurplusMatch", "<init>", "()V"⟩
abbrev b_S_init : ByteArray := prog_1_method_1_code
def y_S_piece : MethodName := ⟨"SurplusMatch", "piece", "(IIII)I"⟩
abbrev b_S_piece : ByteArray := prog_1_method_2_code
def y_S_order : MethodName := ⟨"SurplusMatch", "order", "(IIII)I"⟩
abbrev b_S_order : ByteArray := prog_1_method_3_code
def y_S_worth : MethodName := ⟨"SurplusMatch", "worth", "(III)V"⟩
abbrev b_S_worth : ByteArray := prog_1_method_4_code
def y_S_rules : MethodName := ⟨"SurplusMatch", "rules", "(III)V"⟩
abbrev b_S_rules : ByteArray := prog_1_method_5_code
def y_S_fits : MethodName := ⟨"SurplusMatch", "fits", "(II)Z"⟩
abbrev b_S_fits : ByteArray := prog_1_method_6_code
def y_S_net : MethodName := ⟨"SurplusMatch", "net", "(II)I"⟩
abbrev b_S_net : ByteArray := prog_1_method_7_code
def y_S_run : MethodName := ⟨"SurplusMatch", "run", "()I"⟩
abbrev b_S_run : ByteArray := prog_1_method_8_code
def y_S_sum : MethodName := ⟨"SurplusMatch", "sum", "()I"⟩
abbrev b_S_sum : ByteArray := prog_1_method_9_code
def y_S_dual : MethodName := ⟨"SurplusMatch", "dual", "(II)I"⟩
abbrev b_S_dual : ByteArray := prog_1_method_10_code
def y_S_several : MethodName := ⟨"SurplusMatch", "several", "(I)I"⟩
abbrev b_S_several : ByteArray := prog_1_method_11_code
def y_S_orderOf : MethodName := ⟨"SurplusMatch", "orderOf", "(II)I"⟩
abbrev b_S_orderOf : ByteArray := prog_1_method_12_code
def y_S_reserve : MethodName := ⟨"SurplusMatch", "reserve", "(III)V"⟩
abbrev b_S_reserve : ByteArray := prog_1_method_13_code
def y_S_reserved : MethodName := ⟨"SurplusMatch", "reserved", "(I)I"⟩
abbrev b_S_reserved : ByteArray := prog_1_method_14_code
def y_S_undo : MethodName := ⟨"SurplusMatch", "undo", "(I)V"⟩
abbrev b_S_undo : ByteArray := prog_1_method_15_code
def y_S_sale : MethodName := ⟨"SurplusMatch", "sale", "(I)I"⟩
abbrev b_S_sale : ByteArray := prog_1_method_16_code
def y_S_tick : MethodName := ⟨"SurplusMatch", "tick", "(I)I"⟩
abbrev b_S_tick : ByteArray := prog_1_method_17_code
def y_S_isWithin : MethodName := ⟨"SurplusMatch", "isWithin", "(III)Z"⟩
abbrev b_S_isWithin : ByteArray := prog_1_method_18_code
def y_S_pairIndex : MethodName := ⟨"SurplusMatch", "pairIndex", "(II)I"⟩
abbrev b_S_pairIndex : ByteArray := prog_1_method_19_code
def y_S_refuseBoard : MethodName := ⟨"SurplusMatch", "refuseBoard", "(LSurplusMatch$Boards;IIII)V"⟩
abbrev b_S_refuseBoard : ByteArray := prog_1_method_20_code
def y_S_refuseUnknownPiece : MethodName := ⟨"SurplusMatch", "refuseUnknownPiece", "(I)V"⟩
abbrev b_S_refuseUnknownPiece : ByteArray := prog_1_method_21_code
def y_S_refuseUnknownPair : MethodName := ⟨"SurplusMatch", "refuseUnknownPair", "(II)V"⟩
abbrev b_S_refuseUnknownPair : ByteArray := prog_1_method_22_code
def y_S_refuseNegative : MethodName := ⟨"SurplusMatch", "refuseNegative", "(I)V"⟩
abbrev b_S_refuseNegative : ByteArray := prog_1_method_23_code
def y_S_refuseMisfit : MethodName := ⟨"SurplusMatch", "refuseMisfit", "(II)V"⟩
abbrev b_S_refuseMisfit : ByteArray := prog_1_method_24_code
def y_S_worthToday : MethodName := ⟨"SurplusMatch", "worthToday", "(II)I"⟩
abbrev b_S_worthToday : ByteArray := prog_1_method_25_code
def y_S_ageOf : MethodName := ⟨"SurplusMatch", "ageOf", "(I)I"⟩
abbrev b_S_ageOf : ByteArray := prog_1_method_26_code
def y_S_isForSale : MethodName := ⟨"SurplusMatch", "isForSale", "(I)Z"⟩
abbrev b_S_isForSale : ByteArray := prog_1_method_27_code
def y_S_mayPair : MethodName := ⟨"SurplusMatch", "mayPair", "(II)Z"⟩
abbrev b_S_mayPair : ByteArray := prog_1_method_28_code
def y_S_cutPiece : MethodName := ⟨"SurplusMatch", "cutPiece", "(II)V"⟩
abbrev b_S_cutPiece : ByteArray := prog_1_method_29_code
def y_S_offerPairs : MethodName := ⟨"SurplusMatch", "offerPairs", "()V"⟩
abbrev b_S_offerPairs : ByteArray := prog_1_method_30_code
def y_S_openOrders : MethodName := ⟨"SurplusMatch", "openOrders", "(I)I"⟩
abbrev b_S_openOrders : ByteArray := prog_1_method_31_code
def y_S_bestSet : MethodName := ⟨"SurplusMatch", "bestSet", "(I)I"⟩
abbrev b_S_bestSet : ByteArray := prog_1_method_32_code
def y_S_totalWorth : MethodName := ⟨"SurplusMatch", "totalWorth", "(II)I"⟩
abbrev b_S_totalWorth : ByteArray := prog_1_method_33_code
def R_D : String := "SurplusMatchModel"
def F_D : u_T := fun k => match k with
  | 0 => ("SurplusMatchModel", "thrown", "I", false)
  | 1 => ("SurplusMatchModel", "today", "I", false)
  | 2 => ("SurplusMatchModel", "cut", "I", false)
  | 3 => ("SurplusMatchModel", "aging", "I", false)
  | 4 => ("SurplusMatchModel", "saleFrom", "I", false)
  | 5 => ("SurplusMatchModel", "pieces", "I", false)
  | 6 => ("SurplusMatchModel", "orders", "I", false)
  | 7 => ("SurplusMatchModel", "piece", "[I", true)
  | 8 => ("SurplusMatchModel", "order", "[I", true)
  | 9 => ("SurplusMatchModel", "came", "[I", true)
  | 10 => ("SurplusMatchModel", "worth", "[I", true)
  | 11 => ("SurplusMatchModel", "used", "[Z", true)
  | 12 => ("SurplusMatchModel", "usedBy", "[I", true)
  | 13 => ("SurplusMatchModel", "reservedFor", "[I", true)
  | 14 => ("SurplusMatchModel", "reservedTo", "[I", true)
  | 15 => ("SurplusMatchModel", "ran", "Z", false)
  | 16 => ("SurplusMatchModel", "sum", "I", false)
  | 17 => ("SurplusMatchModel", "pieceDual", "[I", true)
  | 18 => ("SurplusMatchModel", "orderDual", "[I", true)
  | _ => ("SurplusMatchModel", "table", "[J", true)
def t_D : Nat → FieldType := fun k => match k with
  | 0 => .int
  | 1 => .int
  | 2 => .int
  | 3 => .int
  | 4 => .int
  | 5 => .int
  | 6 => .int
  | 7 => .array .int
  | 8 => .array .int
  | 9 => .array .int
  | 10 => .array .int
  | 11 => .array .boolean
  | 12 => .array .int
  | 13 => .array .int
  | 14 => .array .int
  | 15 => .boolean
  | 16 => .int
  | 17 => .array .int
  | 18 => .array .int
  | _ => .array .long
abbrev w_D : List Cond := u_ws R_D F_D 20
theorem n_D : ∀ a, a < 20 → ∀ b, b < 20 → a ≠ b → (F_D a).2.1 ≠ (F_D b).2.1 := by decide +kernel
theorem t_D_ok : ∀ k, k < 20 → parseFieldDescriptor (F_D k).2.2.1 = some (t_D k) := by decide +kernel
def y_D_init : MethodName := ⟨"SurplusMatchModel", "<init>", "()V"⟩
abbrev b_D_init : ByteArray := prog_7_method_1_code
def y_D_thrown : MethodName := ⟨"SurplusMatchModel", "thrown", "()I"⟩
abbrev b_D_thrown : ByteArray := prog_7_method_2_code
def y_D_in : MethodName := ⟨"SurplusMatchModel", "in", "(III)Z"⟩
abbrev b_D_in : ByteArray := prog_7_method_3_code
def y_D_goes : MethodName := ⟨"SurplusMatchModel", "goes", "(ZZZZ)Z"⟩
abbrev b_D_goes : ByteArray := prog_7_method_4_code
def y_D_isPiece : MethodName := ⟨"SurplusMatchModel", "isPiece", "(I)Z"⟩
abbrev b_D_isPiece : ByteArray := prog_7_method_5_code
def y_D_isOrder : MethodName := ⟨"SurplusMatchModel", "isOrder", "(I)Z"⟩
abbrev b_D_isOrder : ByteArray := prog_7_method_6_code
def y_D_areSizes : MethodName := ⟨"SurplusMatchModel", "areSizes", "(IIII)Z"⟩
abbrev b_D_areSizes : ByteArray := prog_7_method_7_code
def y_D_piece : MethodName := ⟨"SurplusMatchModel", "piece", "(IIII)I"⟩
abbrev b_D_piece : ByteArray := prog_7_method_8_code
def y_D_order : MethodName := ⟨"SurplusMatchModel", "order", "(IIII)I"⟩
abbrev b_D_order : ByteArray := prog_7_method_9_code
def y_D_isFit : MethodName := ⟨"SurplusMatchModel", "isFit", "(II)Z"⟩
abbrev b_D_isFit : ByteArray := prog_7_method_10_code
def y_D_worth : MethodName := ⟨"SurplusMatchModel", "worth", "(III)V"⟩
abbrev b_D_worth : ByteArray := prog_7_method_11_code
def y_D_rules : MethodName := ⟨"SurplusMatchModel", "rules", "(III)V"⟩
abbrev b_D_rules : ByteArray := prog_7_method_12_code
def y_D_fits : MethodName := ⟨"SurplusMatchModel", "fits", "(II)Z"⟩
abbrev b_D_fits : ByteArray := prog_7_method_13_code
def y_D_netOf : MethodName := ⟨"SurplusMatchModel", "netOf", "(II)I"⟩
abbrev b_D_netOf : ByteArray := prog_7_method_14_code
def y_D_net : MethodName := ⟨"SurplusMatchModel", "net", "(II)I"⟩
abbrev b_D_net : ByteArray := prog_7_method_15_code
def y_D_reservation : MethodName := ⟨"SurplusMatchModel", "reservation", "(I)I"⟩
abbrev b_D_reservation : ByteArray := prog_7_method_16_code
def y_D_holder : MethodName := ⟨"SurplusMatchModel", "holder", "(I)I"⟩
abbrev b_D_holder : ByteArray := prog_7_method_17_code
def y_D_can : MethodName := ⟨"SurplusMatchModel", "can", "(II)Z"⟩
abbrev b_D_can : ByteArray := prog_7_method_18_code
def y_D_fill : MethodName := ⟨"SurplusMatchModel", "fill", "(I)V"⟩
abbrev b_D_fill : ByteArray := prog_7_method_19_code
def y_D_run : MethodName := ⟨"SurplusMatchModel", "run", "()I"⟩
abbrev b_D_run : ByteArray := prog_7_method_20_code
def y_D_sum : MethodName := ⟨"SurplusMatchModel", "sum", "()I"⟩
abbrev b_D_sum : ByteArray := prog_7_method_21_code
def y_D_dual : MethodName := ⟨"SurplusMatchModel", "dual", "(II)I"⟩
abbrev b_D_dual : ByteArray := prog_7_method_22_code
def y_D_several : MethodName := ⟨"SurplusMatchModel", "several", "(I)I"⟩
abbrev b_D_several : ByteArray := prog_7_method_23_code
def y_D_orderOf : MethodName := ⟨"SurplusMatchModel", "orderOf", "(II)I"⟩
abbrev b_D_orderOf : ByteArray := prog_7_method_24_code
def y_D_reserve : MethodName := ⟨"SurplusMatchModel", "reserve", "(III)V"⟩
abbrev b_D_reserve : ByteArray := prog_7_method_25_code
def y_D_reserved : MethodName := ⟨"SurplusMatchModel", "reserved", "(I)I"⟩
abbrev b_D_reserved : ByteArray := prog_7_method_26_code
def y_D_undo : MethodName := ⟨"SurplusMatchModel", "undo", "(I)V"⟩
abbrev b_D_undo : ByteArray := prog_7_method_27_code
def y_D_sale : MethodName := ⟨"SurplusMatchModel", "sale", "(I)I"⟩
abbrev b_D_sale : ByteArray := prog_7_method_28_code
def y_D_tick : MethodName := ⟨"SurplusMatchModel", "tick", "(I)I"⟩
abbrev b_D_tick : ByteArray := prog_7_method_29_code
def R_L : String := "SurplusMatchLaw"
def y_L_init : MethodName := ⟨"SurplusMatchLaw", "<init>", "()V"⟩
-- no code word: SurplusMatchLaw <init>
def y_L_cell : MethodName := ⟨"SurplusMatchLaw", "cell", "([II)I"⟩
-- no code word: SurplusMatchLaw cell
def y_L_piece : MethodName := ⟨"SurplusMatchLaw", "piece", "(LSurplusMatch;IIII[J)I"⟩
abbrev b_L_piece : ByteArray := method_3_code
def y_L_order : MethodName := ⟨"SurplusMatchLaw", "order", "(LSurplusMatch;IIII[J)I"⟩
abbrev b_L_order : ByteArray := method_4_code
def y_L_worth : MethodName := ⟨"SurplusMatchLaw", "worth", "(LSurplusMatch;III)I"⟩
abbrev b_L_worth : ByteArray := method_5_code
def y_L_rules : MethodName := ⟨"SurplusMatchLaw", "rules", "(LSurplusMatch;III)I"⟩
abbrev b_L_rules : ByteArray := method_6_code
def y_L_fits : MethodName := ⟨"SurplusMatchLaw", "fits", "(LSurplusMatch;II[J)I"⟩
abbrev b_L_fits : ByteArray := method_7_code
def y_L_net : MethodName := ⟨"SurplusMatchLaw", "net", "(LSurplusMatch;II[J)I"⟩
abbrev b_L_net : ByteArray := method_8_code
def y_L_dual : MethodName := ⟨"SurplusMatchLaw", "dual", "(LSurplusMatch;II[J)I"⟩
abbrev b_L_dual : ByteArray := method_9_code
def y_L_several : MethodName := ⟨"SurplusMatchLaw", "several", "(LSurplusMatch;I[J)I"⟩
abbrev b_L_several : ByteArray := method_10_code
def y_L_orderOf : MethodName := ⟨"SurplusMatchLaw", "orderOf", "(LSurplusMatch;II[J)I"⟩
abbrev b_L_orderOf : ByteArray := method_11_code
def y_L_reserve : MethodName := ⟨"SurplusMatchLaw", "reserve", "(LSurplusMatch;III)I"⟩
abbrev b_L_reserve : ByteArray := method_12_code
def y_L_reserved : MethodName := ⟨"SurplusMatchLaw", "reserved", "(LSurplusMatch;I[J)I"⟩
abbrev b_L_reserved : ByteArray := method_13_code
def y_L_undo : MethodName := ⟨"SurplusMatchLaw", "undo", "(LSurplusMatch;I)I"⟩
abbrev b_L_undo : ByteArray := method_14_code
def y_L_sale : MethodName := ⟨"SurplusMatchLaw", "sale", "(LSurplusMatch;I[J)I"⟩
abbrev b_L_sale : ByteArray := method_15_code
def y_L_tick : MethodName := ⟨"SurplusMatchLaw", "tick", "(LSurplusMatch;I[J)I"⟩
abbrev b_L_tick : ByteArray := method_16_code
def y_L_law : MethodName := ⟨"SurplusMatchLaw", "law", "([I)Z"⟩
abbrev b_L_law : ByteArray := code
def R_J : String := "java/lang/Integer"
def y_J_bitCount : MethodName := ⟨"java/lang/Integer", "bitCount", "(I)I"⟩
abbrev b_J_bitCount : ByteArray := prog_12_method_49_code
abbrev classes : List vw_C := [(R_B, F_B, 5), (R_U, F_U, 2), (R_H, F_H, 3), (R_M, F_M, 10), (R_S, F_S, 11), (R_D, F_D, 20)]
def W0 : List Cond := [
  .selects "SurplusMatch" y_S_offerPairs y_S_offerPairs,
  .selects "SurplusMatch" y_S_mayPair y_S_mayPair,
  .selects "SurplusMatch" y_S_worthToday y_S_worthToday,
  .selects "SurplusMatch" y_S_ageOf y_S_ageOf,
  .selects "SurplusMatch$Matching" y_M_fillBest y_M_fillBest,
  .selects "SurplusMatch$Matching" y_M_improveRow y_M_improveRow,
  .selects "SurplusMatch$Matching" y_M_choose y_M_choose,
  .selects "SurplusMatch$Matching" y_M_allOrders y_M_allOrders,
  .selects "SurplusMatch$Matching" y_M_lowestOfBest y_M_lowestOfBest,
  .selects "SurplusMatch$Matching" y_M_prove y_M_prove,
  .selects "SurplusMatch" y_S_cutPiece y_S_cutPiece,
  .selects "SurplusMatch" y_S_refuseUnknownPair y_S_refuseUnknownPair,
  .selects "SurplusMatch" y_S_refuseUnknownPiece y_S_refuseUnknownPiece,
  .selects "SurplusMatch" y_S_refuseMisfit y_S_refuseMisfit,
  .selects "SurplusMatch" y_S_bestSet y_S_bestSet,
  .selects "SurplusMatch" y_S_openOrders y_S_openOrders,
  .selects "SurplusMatch" y_S_totalWorth y_S_totalWorth,
  .selects "SurplusMatch" y_S_isForSale y_S_isForSale,
  .selects "SurplusMatchModel" y_D_goes y_D_goes,
  .selects "SurplusMatchModel" y_D_isPiece y_D_isPiece,
  .selects "SurplusMatchModel" y_D_isOrder y_D_isOrder,
  .selects "SurplusMatchModel" y_D_isFit y_D_isFit,
  .selects "SurplusMatchModel" y_D_netOf y_D_netOf,
  .selects "SurplusMatchModel" y_D_fill y_D_fill,
  .selects "SurplusMatchModel" y_D_can y_D_can,
  .selects "SurplusMatchModel" y_D_reservation y_D_reservation,
  .selects "SurplusMatchModel" y_D_holder y_D_holder,
  .initialized "SurplusMatchLaw",
  .initialized "SurplusMatch",
  .initialized "SurplusMatch$Boards",
  .initialized "SurplusMatch$Uses",
  .initialized "SurplusMatch$Holds",
  .initialized "SurplusMatch$Matching",
  .initialized "SurplusMatchModel",
  .initialized "java/lang/Throwable",
  .initialized "java/lang/Exception",
  .initialized "java/lang/RuntimeException",
  .initialized "java/lang/IllegalArgumentException",
  .initialized "java/lang/UnsupportedOperationException",
  .initialized "java/lang/IndexOutOfBoundsException",
  .initialized "java/lang/Math",
  .initialized "java/lang/System",
  .initialized "java/lang/IllegalStateException",
  .initialized "java/lang/Integer",
  .classLink "SurplusMatchLaw" 8 "SurplusMatch",
  .instantiable "SurplusMatch" 11,
  .methodLink "SurplusMatchLaw" 65 y_S_init,
  .instanceMethod y_S_init,
  .code y_S_init prog_1_method_1_code 1 (none : Option Jvm.ClassFile.FieldType),
  .methodLink "SurplusMatch" 1 objectInit,
  .instanceMethod objectInit,
  .code objectInit object_method_1_code 1 (none : Option Jvm.ClassFile.FieldType),
  .classLink "SurplusMatch" 7 "SurplusMatch$Boards",
  .instantiable "SurplusMatch$Boards" 5,
  .methodLink "SurplusMatch" 9 y_B_init,
  .instanceMethod y_B_init,
  .code y_B_init prog_2_method_1_code 1 (none : Option Jvm.ClassFile.FieldType),
  .methodLink "SurplusMatch$Boards" 3 objectInit,
  .fieldLink "SurplusMatch$Boards" 9 "SurplusMatch$Boards" "thicks" "[I",
  .fieldLink "SurplusMatch$Boards" 15 "SurplusMatch$Boards" "wides" "[I",
  .fieldLink "SurplusMatch$Boards" 18 "SurplusMatch$Boards" "lengths" "[I",
  .fieldLink "SurplusMatch$Boards" 21 "SurplusMatch$Boards" "grades" "[I",
  .fieldLink "SurplusMatch$Boards" 24 "SurplusMatch$Boards" "count" "I",
  .laysFinal "SurplusMatch$Boards" "SurplusMatch$Boards" "thicks" "[I",
  .soleField "SurplusMatch$Boards" "thicks",
  .laysFinal "SurplusMatch$Boards" "SurplusMatch$Boards" "wides" "[I",
  .soleField "SurplusMatch$Boards" "wides",
  .laysFinal "SurplusMatch$Boards" "SurplusMatch$Boards" "lengths" "[I",
  .soleField "SurplusMatch$Boards" "lengths",
  .laysFinal "SurplusMatch$Boards" "SurplusMatch$Boards" "grades" "[I",
  .soleField "SurplusMatch$Boards" "grades",
  .lays "SurplusMatch$Boards" "SurplusMatch$Boards" "count" "I",
  .soleField "SurplusMatch$Boards" "count",
  .superclass "SurplusMatch$Boards" "java/lang/Object",
  .arrayClass .int,
  .classLink "SurplusMatch" 26 "SurplusMatch$Uses",
  .instantiable "SurplusMatch$Uses" 2,
  .methodLink "SurplusMatch" 28 y_U_init,
  .instanceMethod y_U_init,
  .code y_U_init prog_5_method_1_code 1 (none : Option Jvm.ClassFile.FieldType),
  .methodLink "SurplusMatch$Uses" 3 objectInit,
  .fieldLink "SurplusMatch$Uses" 9 "SurplusMatch$Uses" "ordersOfPiece" "[I",
  .fieldLink "SurplusMatch$Uses" 15 "SurplusMatch$Uses" "usedOrders" "I",
  .laysFinal "SurplusMatch$Uses" "SurplusMatch$Uses" "ordersOfPiece" "[I",
  .soleField "SurplusMatch$Uses" "ordersOfPiece",
  .lays "SurplusMatch$Uses" "SurplusMatch$Uses" "usedOrders" "I",
  .soleField "SurplusMatch$Uses" "usedOrders",
  .superclass "SurplusMatch$Uses" "java/lang/Object",
  .classLink "SurplusMatch" 33 "SurplusMatch$Holds",
  .instantiable "SurplusMatch$Holds" 3,
  .methodLink "SurplusMatch" 35 y_H_init,
  .instanceMethod y_H_init,
  .code y_H_init prog_3_method_1_code 2 (none : Option Jvm.ClassFile.FieldType),
  .methodLink "SurplusMatch$Holds" 3 objectInit,
  .fieldLink "SurplusMatch$Holds" 9 "SurplusMatch$Holds" "orderOfPiece" "[I",
  .fieldLink "SurplusMatch$Holds" 15 "SurplusMatch$Holds" "lastDay" "[I",
  .fieldLink "SurplusMatch$Holds" 18 "SurplusMatch$Holds" "heldOrders" "I",
  .laysFinal "SurplusMatch$Holds" "SurplusMatch$Holds" "orderOfPiece" "[I",
  .soleField "SurplusMatch$Holds" "orderOfPiece",
  .laysFinal "SurplusMatch$Holds" "SurplusMatch$Holds" "lastDay" "[I",
  .soleField "SurplusMatch$Holds" "lastDay",
  .lays "SurplusMatch$Holds" "SurplusMatch$Holds" "heldOrders" "I",
  .soleField "SurplusMatch$Holds" "heldOrders",
  .superclass "SurplusMatch$Holds" "java/lang/Object",
  .classLink "SurplusMatch" 40 "SurplusMatch$Matching",
  .instantiable "SurplusMatch$Matching" 10,
  .methodLink "SurplusMatch" 42 y_M_init,
  .instanceMethod y_M_init,
  .code y_M_init prog_4_method_1_code 1 (none : Option Jvm.ClassFile.FieldType),
  .methodLink "SurplusMatch$Matching" 3 objectInit,
  .fieldLink "SurplusMatch$Matching" 9 "SurplusMatch$Matching" "gains" "[I",
  .fieldLink "SurplusMatch$Matching" 15 "SurplusMatch$Matching" "best" "[I",
  .fieldLink "SurplusMatch$Matching" 18 "SurplusMatch$Matching" "chosen" "[I",
  .fieldLink "SurplusMatch$Matching" 21 "SurplusMatch$Matching" "pieceDuals" "[I",
  .fieldLink "SurplusMatch$Matching" 24 "SurplusMatch$Matching" "orderDuals" "[I",
  .fieldLink "SurplusMatch$Matching" 42 "SurplusMatch$Matching" "pieceCount" "I",
  .fieldLink "SurplusMatch$Matching" 45 "SurplusMatch$Matching" "orderCount" "I",
  .fieldLink "SurplusMatch$Matching" 31 "SurplusMatch$Matching" "pairs" "I",
  .fieldLink "SurplusMatch$Matching" 35 "SurplusMatch$Matching" "worthSum" "I",
  .fieldLink "SurplusMatch$Matching" 27 "SurplusMatch$Matching" "upToDate" "Z",
  .laysFinal "SurplusMatch$Matching" "SurplusMatch$Matching" "gains" "[I",
  .soleField "SurplusMatch$Matching" "gains",
  .laysFinal "SurplusMatch$Matching" "SurplusMatch$Matching" "best" "[I",
  .soleField "SurplusMatch$Matching" "best",
  .laysFinal "SurplusMatch$Matching" "SurplusMatch$Matching" "chosen" "[I",
  .soleField "SurplusMatch$Matching" "chosen",
  .laysFinal "SurplusMatch$Matching" "SurplusMatch$Matching" "pieceDuals" "[I",
  .soleField "SurplusMatch$Matching" "pieceDuals",
  .laysFinal "SurplusMatch$Matching" "SurplusMatch$Matching" "orderDuals" "[I",
  .soleField "SurplusMatch$Matching" "orderDuals",
  .lays "SurplusMatch$Matching" "SurplusMatch$Matching" "pieceCount" "I",
  .soleField "SurplusMatch$Matching" "pieceCount",
  .lays "SurplusMatch$Matching" "SurplusMatch$Matching" "orderCount" "I",
  .soleField "SurplusMatch$Matching" "orderCount",
  .lays "SurplusMatch$Matching" "SurplusMatch$Matching" "pairs" "I",
  .soleField "SurplusMatch$Matching" "pairs",
  .lays "SurplusMatch$Matching" "SurplusMatch$Matching" "worthSum" "I",
  .soleField "SurplusMatch$Matching" "worthSum",
  .lays "SurplusMatch$Matching" "SurplusMatch$Matching" "upToDate" "Z",
  .soleField "SurplusMatch$Matching" "upToDate",
  .superclass "SurplusMatch$Matching" "java/lang/Object",
  .fieldLink "SurplusMatch" 10 "SurplusMatch" "pieces" "LSurplusMatch$Boards;",
  .fieldLink "SurplusMatch" 16 "SurplusMatch" "orders" "LSurplusMatch$Boards;",
  .fieldLink "SurplusMatch" 19 "SurplusMatch" "cameOn" "[I",
  .fieldLink "SurplusMatch" 23 "SurplusMatch" "told" "[I",
  .fieldLink "SurplusMatch" 29 "SurplusMatch" "uses" "LSurplusMatch$Uses;",
  .fieldLink "SurplusMatch" 36 "SurplusMatch" "holds" "LSurplusMatch$Holds;",
  .fieldLink "SurplusMatch" 43 "SurplusMatch" "matching" "LSurplusMatch$Matching;",
  .fieldLink "SurplusMatch" 62 "SurplusMatch" "today" "I",
  .fieldLink "SurplusMatch" 94 "SurplusMatch" "cutOff" "I",
  .fieldLink "SurplusMatch" 97 "SurplusMatch" "agingOff" "I",
  .fieldLink "SurplusMatch" 47 "SurplusMatch" "saleAge" "I",
  .laysFinal "SurplusMatch" "SurplusMatch" "pieces" "LSurplusMatch$Boards;",
  .soleField "SurplusMatch" "pieces",
  .laysFinal "SurplusMatch" "SurplusMatch" "orders" "LSurplusMatch$Boards;",
  .soleField "SurplusMatch" "orders",
  .laysFinal "SurplusMatch" "SurplusMatch" "cameOn" "[I",
  .soleField "SurplusMatch" "cameOn",
  .laysFinal "SurplusMatch" "SurplusMatch" "told" "[I",
  .soleField "SurplusMatch" "told",
  .laysFinal "SurplusMatch" "SurplusMatch" "uses" "LSurplusMatch$Uses;",
  .soleField "SurplusMatch" "uses",
  .laysFinal "SurplusMatch" "SurplusMatch" "holds" "LSurplusMatch$Holds;",
  .soleField "SurplusMatch" "holds",
  .laysFinal "SurplusMatch" "SurplusMatch" "matching" "LSurplusMatch$Matching;",
  .soleField "SurplusMatch" "matching",
  .lays "SurplusMatch" "SurplusMatch" "today" "I",
  .soleField "SurplusMatch" "today",
  .lays "SurplusMatch" "SurplusMatch" "cutOff" "I",
  .soleField "SurplusMatch" "cutOff",
  .lays "SurplusMatch" "SurplusMatch" "agingOff" "I",
  .soleField "SurplusMatch" "agingOff",
  .lays "SurplusMatch" "SurplusMatch" "saleAge" "I",
  .soleField "SurplusMatch" "saleAge",
  .superclass "SurplusMatch" "java/lang/Object",
  .methodLink "SurplusMatchLaw" 96 y_S_run,
  .instanceMethod y_S_run,
  .selects "SurplusMatch" y_S_run y_S_run,
  .code y_S_run prog_1_method_8_code 3 (some .int),
  .methodLink "SurplusMatch" 107 y_S_offerPairs,
  .instanceMethod y_S_offerPairs,
  .code y_S_offerPairs prog_1_method_30_code 3 (none : Option Jvm.ClassFile.FieldType),
  .methodLink "SurplusMatch" 258 y_M_clearOffers,
  .instanceMethod y_M_clearOffers,
  .selects "SurplusMatch$Matching" y_M_clearOffers y_M_clearOffers,
  .code y_M_clearOffers prog_4_method_9_code 2 (none : Option Jvm.ClassFile.FieldType),
  .methodLink "SurplusMatch" 110 y_B_size,
  .instanceMethod y_B_size,
  .selects "SurplusMatch$Boards" y_B_size y_B_size,
  .code y_B_size prog_2_method_2_code 1 (some .int),
  .methodLink "SurplusMatch" 261 y_S_mayPair,
  .instanceMethod y_S_mayPair,
  .code y_S_mayPair prog_1_method_28_code 3 (some .boolean),
  .methodLink "SurplusMatch" 160 y_U_isPieceUsed,
  .instanceMethod y_U_isPieceUsed,
  .selects "SurplusMatch$Uses" y_U_isPieceUsed y_U_isPieceUsed,
  .code y_U_isPieceUsed prog_5_method_2_code 2 (some .boolean),
  .methodLink "SurplusMatch" 182 y_U_isOrderUsed,
  .instanceMethod y_U_isOrderUsed,
  .selects "SurplusMatch$Uses" y_U_isOrderUsed y_U_isOrderUsed,
  .code y_U_isOrderUsed prog_5_method_3_code 2 (some .boolean),
  .methodLink "SurplusMatch" 248 y_H_lets,
  .instanceMethod y_H_lets,
  .selects "SurplusMatch$Holds" y_H_lets y_H_lets,
  .code y_H_lets prog_3_method_5_code 3 (some .boolean),
  .methodLink "SurplusMatch$Holds" 22 y_H_isPieceHeld,
  .instanceMethod y_H_isPieceHeld,
  .selects "SurplusMatch$Holds" y_H_isPieceHeld y_H_isPieceHeld,
  .code y_H_isPieceHeld prog_3_method_3_code 2 (some .boolean),
  .methodLink "SurplusMatch$Holds" 26 y_H_isOrderHeld,
  .instanceMethod y_H_isOrderHeld,
  .selects "SurplusMatch$Holds" y_H_isOrderHeld y_H_isOrderHeld,
  .code y_H_isOrderHeld prog_3_method_4_code 2 (some .boolean),
  .methodLink "SurplusMatch" 100 y_B_suits,
  .instanceMethod y_B_suits,
  .selects "SurplusMatch$Boards" y_B_suits y_B_suits,
  .code y_B_suits prog_2_method_6_code 4 (some .boolean),
  .methodLink "SurplusMatch" 104 y_S_worthToday,
  .instanceMethod y_S_worthToday,
  .code y_S_worthToday prog_1_method_25_code 4 (some .int),
  .methodLink "SurplusMatch" 236 y_B_sidesToCut,
  .instanceMethod y_B_sidesToCut,
  .selects "SurplusMatch$Boards" y_B_sidesToCut y_B_sidesToCut,
  .code y_B_sidesToCut prog_2_method_7_code 6 (some .int),
  .methodLink "SurplusMatch" 240 y_S_ageOf,
  .instanceMethod y_S_ageOf,
  .code y_S_ageOf prog_1_method_26_code 2 (some .int),
  .methodLink "SurplusMatch" 84 y_S_pairIndex,
  .static y_S_pairIndex,
  .code y_S_pairIndex prog_1_method_19_code 2 (some .int),
  .methodLink "SurplusMatch" 243 ⟨"java/lang/Math", "max", "(II)I"⟩,
  .static ⟨"java/lang/Math", "max", "(II)I"⟩,
  .code ⟨"java/lang/Math", "max", "(II)I"⟩ prog_13_method_65_code 2 (some .int),
  .methodLink "SurplusMatch" 264 y_M_offer,
  .instanceMethod y_M_offer,
  .selects "SurplusMatch$Matching" y_M_offer y_M_offer,
  .code y_M_offer prog_4_method_10_code 4 (none : Option Jvm.ClassFile.FieldType),
  .methodLink "SurplusMatch" 114 y_M_solve,
  .instanceMethod y_M_solve,
  .selects "SurplusMatch$Matching" y_M_solve y_M_solve,
  .code y_M_solve prog_4_method_11_code 3 (none : Option Jvm.ClassFile.FieldType),
  .methodLink "SurplusMatch$Matching" 48 y_M_fillBest,
  .instanceMethod y_M_fillBest,
  .code y_M_fillBest prog_4_method_12_code 4 (none : Option Jvm.ClassFile.FieldType),
  .methodLink "SurplusMatch$Matching" 57 ⟨"java/lang/System", "arraycopy", "(Ljava/lang/Object;ILjava/lang/Object;II)V"⟩,
  .static ⟨"java/lang/System", "arraycopy", "(Ljava/lang/Object;ILjava/lang/Object;II)V"⟩,
  .native ⟨"java/lang/System", "arraycopy", "(Ljava/lang/Object;ILjava/lang/Object;II)V"⟩,
  .methodLink "SurplusMatch$Matching" 63 y_M_improveRow,
  .instanceMethod y_M_improveRow,
  .code y_M_improveRow prog_4_method_13_code 10 (none : Option Jvm.ClassFile.FieldType),
  .methodLink "SurplusMatch$Matching" 51 y_M_choose,
  .instanceMethod y_M_choose,
  .code y_M_choose prog_4_method_14_code 3 (none : Option Jvm.ClassFile.FieldType),
  .methodLink "SurplusMatch$Matching" 67 y_M_allOrders,
  .instanceMethod y_M_allOrders,
  .code y_M_allOrders prog_4_method_17_code 1 (some .int),
  .methodLink "SurplusMatch$Matching" 71 y_M_lowestOfBest,
  .instanceMethod y_M_lowestOfBest,
  .code y_M_lowestOfBest prog_4_method_15_code 8 (some .int),
  .methodLink "SurplusMatch$Matching" 54 y_M_prove,
  .instanceMethod y_M_prove,
  .code y_M_prove prog_4_method_16_code 4 (none : Option Jvm.ClassFile.FieldType),
  .methodLink "SurplusMatch" 117 y_M_chosenFor,
  .instanceMethod y_M_chosenFor,
  .selects "SurplusMatch$Matching" y_M_chosenFor y_M_chosenFor,
  .code y_M_chosenFor prog_4_method_6_code 2 (some .int),
  .methodLink "SurplusMatch" 121 y_S_cutPiece,
  .instanceMethod y_S_cutPiece,
  .code y_S_cutPiece prog_1_method_29_code 3 (none : Option Jvm.ClassFile.FieldType),
  .methodLink "SurplusMatch" 252 y_U_use,
  .instanceMethod y_U_use,
  .selects "SurplusMatch$Uses" y_U_use y_U_use,
  .code y_U_use prog_5_method_4_code 3 (none : Option Jvm.ClassFile.FieldType),
  .methodLink "SurplusMatch" 255 y_H_drop,
  .instanceMethod y_H_drop,
  .selects "SurplusMatch$Holds" y_H_drop y_H_drop,
  .code y_H_drop prog_3_method_7_code 2 (none : Option Jvm.ClassFile.FieldType),
  .methodLink "SurplusMatch" 124 y_M_pairCount,
  .instanceMethod y_M_pairCount,
  .selects "SurplusMatch$Matching" y_M_pairCount y_M_pairCount,
  .code y_M_pairCount prog_4_method_4_code 1 (some .int),
  .methodLink "SurplusMatchLaw" 100 y_S_sum,
  .instanceMethod y_S_sum,
  .selects "SurplusMatch" y_S_sum y_S_sum,
  .code y_S_sum prog_1_method_9_code 1 (some .int),
  .methodLink "SurplusMatch" 127 y_M_bestSum,
  .instanceMethod y_M_bestSum,
  .selects "SurplusMatch$Matching" y_M_bestSum y_M_bestSum,
  .code y_M_bestSum prog_4_method_5_code 1 (some .int),
  .methodLink "SurplusMatchLaw" 69 y_L_piece,
  .static y_L_piece,
  .codeWith y_L_piece method_3_code 7 (some .int) [(0, 14, 17, 13), (0, 14, 21, 15)],
  .classLink "SurplusMatchLaw" 13 "java/lang/IllegalArgumentException",
  .classLink "SurplusMatchLaw" 15 "java/lang/UnsupportedOperationException",
  .methodLink "SurplusMatchLaw" 7 y_S_piece,
  .instanceMethod y_S_piece,
  .selects "SurplusMatch" y_S_piece y_S_piece,
  .code y_S_piece prog_1_method_2_code 6 (some .int),
  .methodLink "SurplusMatch" 51 y_S_refuseBoard,
  .static y_S_refuseBoard,
  .code y_S_refuseBoard prog_1_method_20_code 5 (none : Option Jvm.ClassFile.FieldType),
  .methodLink "SurplusMatch" 70 y_S_isWithin,
  .static y_S_isWithin,
  .code y_S_isWithin prog_1_method_18_code 3 (some .boolean),
  .classLink "SurplusMatch" 74 "java/lang/IllegalArgumentException",
  .instantiable "java/lang/IllegalArgumentException" 6,
  .selects "java/lang/IllegalArgumentException" ⟨"java/lang/Throwable", "fillInStackTrace", "(I)Ljava/lang/Throwable;"⟩ ⟨"java/lang/Throwable", "fillInStackTrace", "(I)Ljava/lang/Throwable;"⟩,
  .selects "java/lang/IllegalArgumentException" ⟨"java/lang/Throwable", "fillInStackTrace", "()Ljava/lang/Throwable;"⟩ ⟨"java/lang/Throwable", "fillInStackTrace", "()Ljava/lang/Throwable;"⟩,
  .lays "java/lang/IllegalArgumentException" "java/lang/Throwable" "cause" "Ljava/lang/Throwable;",
  .lays "java/lang/Throwable" "java/lang/Throwable" "cause" "Ljava/lang/Throwable;",
  .lays "java/lang/IllegalArgumentException" "java/lang/Throwable" "stackTrace" "[Ljava/lang/StackTraceElement;",
  .lays "java/lang/Throwable" "java/lang/Throwable" "stackTrace" "[Ljava/lang/StackTraceElement;",
  .lays "java/lang/IllegalArgumentException" "java/lang/Throwable" "suppressedExceptions" "Ljava/util/List;",
  .lays "java/lang/Throwable" "java/lang/Throwable" "suppressedExceptions" "Ljava/util/List;",
  .lays "java/lang/IllegalArgumentException" "java/lang/Throwable" "detailMessage" "Ljava/lang/String;",
  .lays "java/lang/Throwable" "java/lang/Throwable" "detailMessage" "Ljava/lang/String;",
  .lays "java/lang/IllegalArgumentException" "java/lang/Throwable" "backtrace" "Ljava/lang/Object;",
  .lays "java/lang/Throwable" "java/lang/Throwable" "backtrace" "Ljava/lang/Object;",
  .fieldLink "java/lang/Throwable" 198 "java/lang/Throwable" "backtrace" "Ljava/lang/Object;",
  .superclass "java/lang/Throwable" "java/lang/Object",
  .instanceMethod ⟨"java/lang/Throwable", "<init>", "()V"⟩,
  .code ⟨"java/lang/Throwable", "<init>", "()V"⟩ prog_17_method_1_code 1 (none : Option Jvm.ClassFile.FieldType),
  .methodLink "java/lang/Throwable" 1 objectInit,
  .fieldLink "java/lang/Throwable" 13 "java/lang/Throwable" "UNASSIGNED_STACK" "[Ljava/lang/StackTraceElement;",
  .fieldLink "java/lang/Throwable" 20 "java/lang/Throwable" "SUPPRESSED_SENTINEL" "Ljava/util/List;",
  .methodLink "java/lang/Throwable" 27 ⟨"java/lang/Throwable", "fillInStackTrace", "()Ljava/lang/Throwable;"⟩,
  .instanceMethod ⟨"java/lang/Throwable", "fillInStackTrace", "()Ljava/lang/Throwable;"⟩,
  .sameMethod "java/lang/Throwable" "java/lang/Throwable" "fillInStackTrace" "()Ljava/lang/Throwable;",
  .selects "java/lang/IllegalStateException" ⟨"java/lang/Throwable", "fillInStackTrace", "()Ljava/lang/Throwable;"⟩ ⟨"java/lang/Throwable", "fillInStackTrace", "()Ljava/lang/Throwable;"⟩,
  .selects "java/lang/IndexOutOfBoundsException" ⟨"java/lang/Throwable", "fillInStackTrace", "()Ljava/lang/Throwable;"⟩ ⟨"java/lang/Throwable", "fillInStackTrace", "()Ljava/lang/Throwable;"⟩,
  .selects "java/lang/UnsupportedOperationException" ⟨"java/lang/Throwable", "fillInStackTrace", "()Ljava/lang/Throwable;"⟩ ⟨"java/lang/Throwable", "fillInStackTrace", "()Ljava/lang/Throwable;"⟩,
  .codeSync ⟨"java/lang/Throwable", "fillInStackTrace", "()Ljava/lang/Throwable;"⟩ prog_17_method_18_code 1 (Option.some (.object "java/lang/Throwable")),
  .methodLink "java/lang/Throwable" 202 ⟨"java/lang/Throwable", "fillInStackTrace", "(I)Ljava/lang/Throwable;"⟩,
  .instanceMethod ⟨"java/lang/Throwable", "fillInStackTrace", "(I)Ljava/lang/Throwable;"⟩,
  .instantiable "java/lang/Throwable" 6,
  .native ⟨"java/lang/Throwable", "fillInStackTrace", "(I)Ljava/lang/Throwable;"⟩,
  .methodLink "SurplusMatch" 78 ⟨"java/lang/IllegalArgumentException", "<init>", "(Ljava/lang/String;)V"⟩,
  .instanceMethod ⟨"java/lang/IllegalArgumentException", "<init>", "(Ljava/lang/String;)V"⟩,
  .code ⟨"java/lang/IllegalArgumentException", "<init>", "(Ljava/lang/String;)V"⟩ prog_9_method_2_code 2 (none : Option Jvm.ClassFile.FieldType),
  .methodLink "java/lang/IllegalArgumentException" 7 ⟨"java/lang/RuntimeException", "<init>", "(Ljava/lang/String;)V"⟩,
  .instanceMethod ⟨"java/lang/RuntimeException", "<init>", "(Ljava/lang/String;)V"⟩,
  .code ⟨"java/lang/RuntimeException", "<init>", "(Ljava/lang/String;)V"⟩ prog_14_method_2_code 2 (none : Option Jvm.ClassFile.FieldType),
  .methodLink "java/lang/RuntimeException" 7 ⟨"java/lang/Exception", "<init>", "(Ljava/lang/String;)V"⟩,
  .instanceMethod ⟨"java/lang/Exception", "<init>", "(Ljava/lang/String;)V"⟩,
  .code ⟨"java/lang/Exception", "<init>", "(Ljava/lang/String;)V"⟩ prog_8_method_2_code 2 (none : Option Jvm.ClassFile.FieldType),
  .methodLink "java/lang/Exception" 7 ⟨"java/lang/Throwable", "<init>", "(Ljava/lang/String;)V"⟩,
  .instanceMethod ⟨"java/lang/Throwable", "<init>", "(Ljava/lang/String;)V"⟩,
  .code ⟨"java/lang/Throwable", "<init>", "(Ljava/lang/String;)V"⟩ prog_17_method_2_code 2 (none : Option Jvm.ClassFile.FieldType),
  .fieldLink "java/lang/Throwable" 198 "java/lang/Throwable" "backtrace" "Ljava/lang/Object;",
  .fieldLink "java/lang/Throwable" 31 "java/lang/Throwable" "detailMessage" "Ljava/lang/String;",
  .fieldLink "java/lang/Throwable" 7 "java/lang/Throwable" "cause" "Ljava/lang/Throwable;",
  .fieldLink "java/lang/Throwable" 17 "java/lang/Throwable" "stackTrace" "[Ljava/lang/StackTraceElement;",
  .fieldLink "java/lang/Throwable" 24 "java/lang/Throwable" "suppressedExceptions" "Ljava/util/List;",
  .soleField "java/lang/Throwable" "backtrace",
  .soleField "java/lang/Throwable" "detailMessage",
  .soleField "java/lang/Throwable" "cause",
  .soleField "java/lang/Throwable" "stackTrace",
  .lays "java/lang/IllegalArgumentException" "java/lang/Throwable" "depth" "I",
  .soleField "java/lang/Throwable" "depth",
  .soleField "java/lang/Throwable" "suppressedExceptions",
  .superclass "java/lang/IllegalArgumentException" "java/lang/RuntimeException",
  .arrayClass .byte,
  .methodLink "SurplusMatch" 220 y_B_isFull,
  .instanceMethod y_B_isFull,
  .selects "SurplusMatch$Boards" y_B_isFull y_B_isFull,
  .code y_B_isFull prog_2_method_4_code 1 (some .boolean),
  .classLink "SurplusMatch" 223 "java/lang/UnsupportedOperationException",
  .instantiable "java/lang/UnsupportedOperationException" 6,
  .selects "java/lang/UnsupportedOperationException" ⟨"java/lang/Throwable", "fillInStackTrace", "(I)Ljava/lang/Throwable;"⟩ ⟨"java/lang/Throwable", "fillInStackTrace", "(I)Ljava/lang/Throwable;"⟩,
  .lays "java/lang/UnsupportedOperationException" "java/lang/Throwable" "cause" "Ljava/lang/Throwable;",
  .lays "java/lang/UnsupportedOperationException" "java/lang/Throwable" "stackTrace" "[Ljava/lang/StackTraceElement;",
  .lays "java/lang/UnsupportedOperationException" "java/lang/Throwable" "suppressedExceptions" "Ljava/util/List;",
  .lays "java/lang/UnsupportedOperationException" "java/lang/Throwable" "detailMessage" "Ljava/lang/String;",
  .lays "java/lang/UnsupportedOperationException" "java/lang/Throwable" "backtrace" "Ljava/lang/Object;",
  .methodLink "SurplusMatch" 227 ⟨"java/lang/UnsupportedOperationException", "<init>", "(Ljava/lang/String;)V"⟩,
  .instanceMethod ⟨"java/lang/UnsupportedOperationException", "<init>", "(Ljava/lang/String;)V"⟩,
  .code ⟨"java/lang/UnsupportedOperationException", "<init>", "(Ljava/lang/String;)V"⟩ prog_18_method_2_code 2 (none : Option Jvm.ClassFile.FieldType),
  .methodLink "java/lang/UnsupportedOperationException" 7 ⟨"java/lang/RuntimeException", "<init>", "(Ljava/lang/String;)V"⟩,
  .lays "java/lang/UnsupportedOperationException" "java/lang/Throwable" "depth" "I",
  .superclass "java/lang/UnsupportedOperationException" "java/lang/RuntimeException",
  .methodLink "SurplusMatch" 55 y_M_outdate,
  .instanceMethod y_M_outdate,
  .selects "SurplusMatch$Matching" y_M_outdate y_M_outdate,
  .code y_M_outdate prog_4_method_2_code 1 (none : Option Jvm.ClassFile.FieldType),
  .methodLink "SurplusMatch" 58 y_B_add,
  .instanceMethod y_B_add,
  .selects "SurplusMatch$Boards" y_B_add y_B_add,
  .code y_B_add prog_2_method_5_code 6 (some .int),
  .methodLink "SurplusMatchLaw" 79 y_L_order,
  .static y_L_order,
  .codeWith y_L_order method_4_code 7 (some .int) [(0, 14, 17, 13), (0, 14, 21, 15)],
  .methodLink "SurplusMatchLaw" 17 y_S_order,
  .instanceMethod y_S_order,
  .selects "SurplusMatch" y_S_order y_S_order,
  .code y_S_order prog_1_method_3_code 5 (some .int),
  .methodLink "SurplusMatchLaw" 82 y_L_worth,
  .static y_L_worth,
  .codeWith y_L_worth method_5_code 5 (some .int) [(0, 7, 10, 24), (0, 7, 14, 13), (0, 7, 18, 15)],
  .classLink "SurplusMatchLaw" 24 "java/lang/IndexOutOfBoundsException",
  .methodLink "SurplusMatchLaw" 20 y_S_worth,
  .instanceMethod y_S_worth,
  .selects "SurplusMatch" y_S_worth y_S_worth,
  .code y_S_worth prog_1_method_4_code 4 (none : Option Jvm.ClassFile.FieldType),
  .methodLink "SurplusMatch" 65 y_S_refuseUnknownPair,
  .instanceMethod y_S_refuseUnknownPair,
  .code y_S_refuseUnknownPair prog_1_method_22_code 3 (none : Option Jvm.ClassFile.FieldType),
  .methodLink "SurplusMatch" 156 y_S_refuseUnknownPiece,
  .instanceMethod y_S_refuseUnknownPiece,
  .code y_S_refuseUnknownPiece prog_1_method_21_code 2 (none : Option Jvm.ClassFile.FieldType),
  .methodLink "SurplusMatch" 135 y_B_has,
  .instanceMethod y_B_has,
  .selects "SurplusMatch$Boards" y_B_has y_B_has,
  .code y_B_has prog_2_method_3_code 2 (some .boolean),
  .classLink "SurplusMatch" 130 "java/lang/IndexOutOfBoundsException",
  .instantiable "java/lang/IndexOutOfBoundsException" 6,
  .selects "java/lang/IndexOutOfBoundsException" ⟨"java/lang/Throwable", "fillInStackTrace", "(I)Ljava/lang/Throwable;"⟩ ⟨"java/lang/Throwable", "fillInStackTrace", "(I)Ljava/lang/Throwable;"⟩,
  .lays "java/lang/IndexOutOfBoundsException" "java/lang/Throwable" "cause" "Ljava/lang/Throwable;",
  .lays "java/lang/IndexOutOfBoundsException" "java/lang/Throwable" "stackTrace" "[Ljava/lang/StackTraceElement;",
  .lays "java/lang/IndexOutOfBoundsException" "java/lang/Throwable" "suppressedExceptions" "Ljava/util/List;",
  .lays "java/lang/IndexOutOfBoundsException" "java/lang/Throwable" "detailMessage" "Ljava/lang/String;",
  .lays "java/lang/IndexOutOfBoundsException" "java/lang/Throwable" "backtrace" "Ljava/lang/Object;",
  .methodLink "SurplusMatch" 134 ⟨"java/lang/IndexOutOfBoundsException", "<init>", "(Ljava/lang/String;)V"⟩,
  .instanceMethod ⟨"java/lang/IndexOutOfBoundsException", "<init>", "(Ljava/lang/String;)V"⟩,
  .code ⟨"java/lang/IndexOutOfBoundsException", "<init>", "(Ljava/lang/String;)V"⟩ prog_11_method_2_code 2 (none : Option Jvm.ClassFile.FieldType),
  .methodLink "java/lang/IndexOutOfBoundsException" 7 ⟨"java/lang/RuntimeException", "<init>", "(Ljava/lang/String;)V"⟩,
  .lays "java/lang/IndexOutOfBoundsException" "java/lang/Throwable" "depth" "I",
  .superclass "java/lang/IndexOutOfBoundsException" "java/lang/RuntimeException",
  .constant "SurplusMatch" 69 1000000,
  .methodLink "SurplusMatch" 81 y_S_refuseMisfit,
  .instanceMethod y_S_refuseMisfit,
  .code y_S_refuseMisfit prog_1_method_24_code 3 (none : Option Jvm.ClassFile.FieldType),
  .methodLink "SurplusMatchLaw" 86 y_L_rules,
  .static y_L_rules,
  .codeWith y_L_rules method_6_code 5 (some .int) [(0, 7, 10, 13)],
  .methodLink "SurplusMatchLaw" 26 y_S_rules,
  .instanceMethod y_S_rules,
  .selects "SurplusMatch" y_S_rules y_S_rules,
  .code y_S_rules prog_1_method_5_code 4 (none : Option Jvm.ClassFile.FieldType),
  .methodLink "SurplusMatchLaw" 89 y_L_fits,
  .static y_L_fits,
  .codeWith y_L_fits method_7_code 5 (some .int) [(0, 17, 20, 24)],
  .methodLink "SurplusMatchLaw" 29 y_S_fits,
  .instanceMethod y_S_fits,
  .selects "SurplusMatch" y_S_fits y_S_fits,
  .code y_S_fits prog_1_method_6_code 3 (some .boolean),
  .methodLink "SurplusMatchLaw" 93 y_L_net,
  .static y_L_net,
  .codeWith y_L_net method_8_code 5 (some .int) [(0, 10, 13, 24), (0, 10, 17, 15)],
  .methodLink "SurplusMatchLaw" 33 y_S_net,
  .instanceMethod y_S_net,
  .selects "SurplusMatch" y_S_net y_S_net,
  .code y_S_net prog_1_method_7_code 3 (some .int),
  .methodLink "SurplusMatchLaw" 104 y_L_dual,
  .static y_L_dual,
  .codeWith y_L_dual method_9_code 5 (some .int) [(0, 10, 13, 24), (0, 10, 17, 40)],
  .classLink "SurplusMatchLaw" 40 "java/lang/IllegalStateException",
  .methodLink "SurplusMatchLaw" 37 y_S_dual,
  .instanceMethod y_S_dual,
  .selects "SurplusMatch" y_S_dual y_S_dual,
  .code y_S_dual prog_1_method_10_code 4 (some .int),
  .methodLink "SurplusMatch" 141 y_M_isUpToDate,
  .instanceMethod y_M_isUpToDate,
  .selects "SurplusMatch$Matching" y_M_isUpToDate y_M_isUpToDate,
  .code y_M_isUpToDate prog_4_method_3_code 1 (some .boolean),
  .classLink "SurplusMatch" 145 "java/lang/IllegalStateException",
  .instantiable "java/lang/IllegalStateException" 6,
  .selects "java/lang/IllegalStateException" ⟨"java/lang/Throwable", "fillInStackTrace", "(I)Ljava/lang/Throwable;"⟩ ⟨"java/lang/Throwable", "fillInStackTrace", "(I)Ljava/lang/Throwable;"⟩,
  .lays "java/lang/IllegalStateException" "java/lang/Throwable" "cause" "Ljava/lang/Throwable;",
  .lays "java/lang/IllegalStateException" "java/lang/Throwable" "stackTrace" "[Ljava/lang/StackTraceElement;",
  .lays "java/lang/IllegalStateException" "java/lang/Throwable" "suppressedExceptions" "Ljava/util/List;",
  .lays "java/lang/IllegalStateException" "java/lang/Throwable" "detailMessage" "Ljava/lang/String;",
  .lays "java/lang/IllegalStateException" "java/lang/Throwable" "backtrace" "Ljava/lang/Object;",
  .methodLink "SurplusMatch" 149 ⟨"java/lang/IllegalStateException", "<init>", "(Ljava/lang/String;)V"⟩,
  .instanceMethod ⟨"java/lang/IllegalStateException", "<init>", "(Ljava/lang/String;)V"⟩,
  .code ⟨"java/lang/IllegalStateException", "<init>", "(Ljava/lang/String;)V"⟩ prog_10_method_2_code 2 (none : Option Jvm.ClassFile.FieldType),
  .methodLink "java/lang/IllegalStateException" 7 ⟨"java/lang/RuntimeException", "<init>", "(Ljava/lang/String;)V"⟩,
  .lays "java/lang/IllegalStateException" "java/lang/Throwable" "depth" "I",
  .superclass "java/lang/IllegalStateException" "java/lang/RuntimeException",
  .methodLink "SurplusMatch" 150 y_M_dualOfPiece,
  .instanceMethod y_M_dualOfPiece,
  .selects "SurplusMatch$Matching" y_M_dualOfPiece y_M_dualOfPiece,
  .code y_M_dualOfPiece prog_4_method_7_code 2 (some .int),
  .methodLink "SurplusMatch" 153 y_M_dualOfOrder,
  .instanceMethod y_M_dualOfOrder,
  .selects "SurplusMatch$Matching" y_M_dualOfOrder y_M_dualOfOrder,
  .code y_M_dualOfOrder prog_4_method_8_code 2 (some .int),
  .methodLink "SurplusMatchLaw" 107 y_L_several,
  .static y_L_several,
  .codeWith y_L_several method_10_code 4 (some .int) [(0, 9, 12, 24), (0, 9, 15, 40)],
  .methodLink "SurplusMatchLaw" 42 y_S_several,
  .instanceMethod y_S_several,
  .selects "SurplusMatch" y_S_several y_S_several,
  .code y_S_several prog_1_method_11_code 3 (some .int),
  .methodLink "SurplusMatch" 163 y_H_isPieceHeld,
  .methodLink "SurplusMatch" 168 y_S_bestSet,
  .instanceMethod y_S_bestSet,
  .code y_S_bestSet prog_1_method_32_code 10 (some .int),
  .methodLink "SurplusMatch" 267 y_S_openOrders,
  .instanceMethod y_S_openOrders,
  .code y_S_openOrders prog_1_method_31_code 4 (some .int),
  .methodLink "SurplusMatch" 171 y_J_bitCount,
  .static y_J_bitCount,
  .code y_J_bitCount prog_12_method_49_code 1 (some .int),
  .constant "java/lang/Integer" 265 1431655765,
  .constant "java/lang/Integer" 266 858993459,
  .constant "java/lang/Integer" 267 252645135,
  .methodLink "SurplusMatch" 270 y_B_totalLength,
  .instanceMethod y_B_totalLength,
  .selects "SurplusMatch$Boards" y_B_totalLength y_B_totalLength,
  .code y_B_totalLength prog_2_method_9_code 4 (some .int),
  .methodLink "SurplusMatch" 273 y_B_lengthOf,
  .instanceMethod y_B_lengthOf,
  .selects "SurplusMatch$Boards" y_B_lengthOf y_B_lengthOf,
  .code y_B_lengthOf prog_2_method_8_code 2 (some .int),
  .methodLink "SurplusMatch" 276 y_S_totalWorth,
  .instanceMethod y_S_totalWorth,
  .code y_S_totalWorth prog_1_method_33_code 5 (some .int),
  .methodLink "SurplusMatchLaw" 111 y_L_orderOf,
  .static y_L_orderOf,
  .codeWith y_L_orderOf method_11_code 5 (some .int) [(0, 10, 13, 24)],
  .methodLink "SurplusMatchLaw" 46 y_S_orderOf,
  .instanceMethod y_S_orderOf,
  .selects "SurplusMatch" y_S_orderOf y_S_orderOf,
  .code y_S_orderOf prog_1_method_12_code 3 (some .int),
  .methodLink "SurplusMatch" 176 y_S_refuseNegative,
  .static y_S_refuseNegative,
  .code y_S_refuseNegative prog_1_method_23_code 1 (none : Option Jvm.ClassFile.FieldType),
  .methodLink "SurplusMatch" 179 y_U_orderAt,
  .instanceMethod y_U_orderAt,
  .selects "SurplusMatch$Uses" y_U_orderAt y_U_orderAt,
  .code y_U_orderAt prog_5_method_6_code 5 (some .int),
  .methodLink "SurplusMatchLaw" 114 y_L_reserve,
  .static y_L_reserve,
  .codeWith y_L_reserve method_12_code 5 (some .int) [(0, 7, 10, 24), (0, 7, 14, 40), (0, 7, 18, 13), (0, 7, 22, 15)],
  .methodLink "SurplusMatchLaw" 49 y_S_reserve,
  .instanceMethod y_S_reserve,
  .selects "SurplusMatch" y_S_reserve y_S_reserve,
  .code y_S_reserve prog_1_method_13_code 4 (none : Option Jvm.ClassFile.FieldType),
  .methodLink "SurplusMatch" 187 y_H_isOrderHeld,
  .methodLink "SurplusMatch" 194 y_H_hold,
  .instanceMethod y_H_hold,
  .selects "SurplusMatch$Holds" y_H_hold y_H_hold,
  .code y_H_hold prog_3_method_6_code 4 (none : Option Jvm.ClassFile.FieldType),
  .methodLink "SurplusMatchLaw" 117 y_L_reserved,
  .static y_L_reserved,
  .codeWith y_L_reserved method_13_code 4 (some .int) [(0, 9, 12, 24)],
  .methodLink "SurplusMatchLaw" 52 y_S_reserved,
  .instanceMethod y_S_reserved,
  .selects "SurplusMatch" y_S_reserved y_S_reserved,
  .code y_S_reserved prog_1_method_14_code 2 (some .int),
  .methodLink "SurplusMatch" 198 y_H_orderHeldBy,
  .instanceMethod y_H_orderHeldBy,
  .selects "SurplusMatch$Holds" y_H_orderHeldBy y_H_orderHeldBy,
  .code y_H_orderHeldBy prog_3_method_2_code 2 (some .int),
  .methodLink "SurplusMatchLaw" 120 y_L_undo,
  .static y_L_undo,
  .codeWith y_L_undo method_14_code 3 (some .int) [(0, 5, 8, 24), (0, 5, 11, 40)],
  .methodLink "SurplusMatchLaw" 55 y_S_undo,
  .instanceMethod y_S_undo,
  .selects "SurplusMatch" y_S_undo y_S_undo,
  .code y_S_undo prog_1_method_15_code 2 (none : Option Jvm.ClassFile.FieldType),
  .methodLink "SurplusMatch" 203 y_U_free,
  .instanceMethod y_U_free,
  .selects "SurplusMatch$Uses" y_U_free y_U_free,
  .code y_U_free prog_5_method_5_code 2 (none : Option Jvm.ClassFile.FieldType),
  .methodLink "SurplusMatchLaw" 124 y_L_sale,
  .static y_L_sale,
  .codeWith y_L_sale method_15_code 4 (some .int) [(0, 9, 12, 24)],
  .methodLink "SurplusMatchLaw" 59 y_S_sale,
  .instanceMethod y_S_sale,
  .selects "SurplusMatch" y_S_sale y_S_sale,
  .code y_S_sale prog_1_method_16_code 4 (some .int),
  .methodLink "SurplusMatch" 206 y_S_isForSale,
  .instanceMethod y_S_isForSale,
  .code y_S_isForSale prog_1_method_27_code 2 (some .boolean),
  .methodLink "SurplusMatchLaw" 127 y_L_tick,
  .static y_L_tick,
  .codeWith y_L_tick method_16_code 4 (some .int) [(0, 9, 12, 13)],
  .methodLink "SurplusMatchLaw" 62 y_S_tick,
  .instanceMethod y_S_tick,
  .selects "SurplusMatch" y_S_tick y_S_tick,
  .code y_S_tick prog_1_method_17_code 2 (some .int),
  .methodLink "SurplusMatch" 213 y_H_dropBefore,
  .instanceMethod y_H_dropBefore,
  .selects "SurplusMatch$Holds" y_H_dropBefore y_H_dropBefore,
  .code y_H_dropBefore prog_3_method_8_code 3 (none : Option Jvm.ClassFile.FieldType),
  .methodLink "SurplusMatch$Holds" 29 y_H_drop,
  .classLink "SurplusMatchLaw" 66 "SurplusMatchModel",
  .instantiable "SurplusMatchModel" 20,
  .methodLink "SurplusMatchLaw" 68 y_D_init,
  .instanceMethod y_D_init,
  .code y_D_init prog_7_method_1_code 1 (none : Option Jvm.ClassFile.FieldType),
  .methodLink "SurplusMatchModel" 1 objectInit,
  .fieldLink "SurplusMatchModel" 49 "SurplusMatchModel" "thrown" "I",
  .fieldLink "SurplusMatchModel" 70 "SurplusMatchModel" "today" "I",
  .fieldLink "SurplusMatchModel" 89 "SurplusMatchModel" "cut" "I",
  .fieldLink "SurplusMatchModel" 92 "SurplusMatchModel" "aging" "I",
  .fieldLink "SurplusMatchModel" 7 "SurplusMatchModel" "saleFrom" "I",
  .fieldLink "SurplusMatchModel" 52 "SurplusMatchModel" "pieces" "I",
  .fieldLink "SurplusMatchModel" 59 "SurplusMatchModel" "orders" "I",
  .fieldLink "SurplusMatchModel" 13 "SurplusMatchModel" "piece" "[I",
  .fieldLink "SurplusMatchModel" 17 "SurplusMatchModel" "order" "[I",
  .fieldLink "SurplusMatchModel" 20 "SurplusMatchModel" "came" "[I",
  .fieldLink "SurplusMatchModel" 23 "SurplusMatchModel" "worth" "[I",
  .fieldLink "SurplusMatchModel" 26 "SurplusMatchModel" "used" "[Z",
  .fieldLink "SurplusMatchModel" 30 "SurplusMatchModel" "usedBy" "[I",
  .fieldLink "SurplusMatchModel" 33 "SurplusMatchModel" "reservedFor" "[I",
  .fieldLink "SurplusMatchModel" 36 "SurplusMatchModel" "reservedTo" "[I",
  .fieldLink "SurplusMatchModel" 73 "SurplusMatchModel" "ran" "Z",
  .fieldLink "SurplusMatchModel" 115 "SurplusMatchModel" "sum" "I",
  .fieldLink "SurplusMatchModel" 39 "SurplusMatchModel" "pieceDual" "[I",
  .fieldLink "SurplusMatchModel" 42 "SurplusMatchModel" "orderDual" "[I",
  .fieldLink "SurplusMatchModel" 45 "SurplusMatchModel" "table" "[J",
  .lays "SurplusMatchModel" "SurplusMatchModel" "thrown" "I",
  .soleField "SurplusMatchModel" "thrown",
  .lays "SurplusMatchModel" "SurplusMatchModel" "today" "I",
  .soleField "SurplusMatchModel" "today",
  .lays "SurplusMatchModel" "SurplusMatchModel" "cut" "I",
  .soleField "SurplusMatchModel" "cut",
  .lays "SurplusMatchModel" "SurplusMatchModel" "aging" "I",
  .soleField "SurplusMatchModel" "aging",
  .lays "SurplusMatchModel" "SurplusMatchModel" "saleFrom" "I",
  .soleField "SurplusMatchModel" "saleFrom",
  .lays "SurplusMatchModel" "SurplusMatchModel" "pieces" "I",
  .soleField "SurplusMatchModel" "pieces",
  .lays "SurplusMatchModel" "SurplusMatchModel" "orders" "I",
  .soleField "SurplusMatchModel" "orders",
  .laysFinal "SurplusMatchModel" "SurplusMatchModel" "piece" "[I",
  .soleField "SurplusMatchModel" "piece",
  .laysFinal "SurplusMatchModel" "SurplusMatchModel" "order" "[I",
  .soleField "SurplusMatchModel" "order",
  .laysFinal "SurplusMatchModel" "SurplusMatchModel" "came" "[I",
  .soleField "SurplusMatchModel" "came",
  .laysFinal "SurplusMatchModel" "SurplusMatchModel" "worth" "[I",
  .soleField "SurplusMatchModel" "worth",
  .laysFinal "SurplusMatchModel" "SurplusMatchModel" "used" "[Z",
  .soleField "SurplusMatchModel" "used",
  .laysFinal "SurplusMatchModel" "SurplusMatchModel" "usedBy" "[I",
  .soleField "SurplusMatchModel" "usedBy",
  .laysFinal "SurplusMatchModel" "SurplusMatchModel" "reservedFor" "[I",
  .soleField "SurplusMatchModel" "reservedFor",
  .laysFinal "SurplusMatchModel" "SurplusMatchModel" "reservedTo" "[I",
  .soleField "SurplusMatchModel" "reservedTo",
  .lays "SurplusMatchModel" "SurplusMatchModel" "ran" "Z",
  .soleField "SurplusMatchModel" "ran",
  .lays "SurplusMatchModel" "SurplusMatchModel" "sum" "I",
  .soleField "SurplusMatchModel" "sum",
  .laysFinal "SurplusMatchModel" "SurplusMatchModel" "pieceDual" "[I",
  .soleField "SurplusMatchModel" "pieceDual",
  .laysFinal "SurplusMatchModel" "SurplusMatchModel" "orderDual" "[I",
  .soleField "SurplusMatchModel" "orderDual",
  .laysFinal "SurplusMatchModel" "SurplusMatchModel" "table" "[J",
  .soleField "SurplusMatchModel" "table",
  .superclass "SurplusMatchModel" "java/lang/Object",
  .arrayClass .boolean,
  .arrayClass .long,
  .methodLink "SurplusMatchLaw" 75 y_D_thrown,
  .instanceMethod y_D_thrown,
  .selects "SurplusMatchModel" y_D_thrown y_D_thrown,
  .code y_D_thrown prog_7_method_2_code 1 (some .int),
  .methodLink "SurplusMatchLaw" 74 y_D_piece,
  .instanceMethod y_D_piece,
  .selects "SurplusMatchModel" y_D_piece y_D_piece,
  .code y_D_piece prog_7_method_8_code 6 (some .int),
  .methodLink "SurplusMatchModel" 62 y_D_areSizes,
  .static y_D_areSizes,
  .code y_D_areSizes prog_7_method_7_code 4 (some .boolean),
  .methodLink "SurplusMatchModel" 55 y_D_in,
  .static y_D_in,
  .code y_D_in prog_7_method_3_code 3 (some .boolean),
  .methodLink "SurplusMatchModel" 66 y_D_goes,
  .instanceMethod y_D_goes,
  .code y_D_goes prog_7_method_4_code 5 (some .boolean),
  .methodLink "SurplusMatchLaw" 81 y_D_order,
  .instanceMethod y_D_order,
  .selects "SurplusMatchModel" y_D_order y_D_order,
  .code y_D_order prog_7_method_9_code 6 (some .int),
  .methodLink "SurplusMatchLaw" 85 y_D_worth,
  .instanceMethod y_D_worth,
  .selects "SurplusMatchModel" y_D_worth y_D_worth,
  .code y_D_worth prog_7_method_11_code 5 (none : Option Jvm.ClassFile.FieldType),
  .methodLink "SurplusMatchModel" 77 y_D_isPiece,
  .instanceMethod y_D_isPiece,
  .code y_D_isPiece prog_7_method_5_code 2 (some .boolean),
  .methodLink "SurplusMatchModel" 81 y_D_isOrder,
  .instanceMethod y_D_isOrder,
  .code y_D_isOrder prog_7_method_6_code 2 (some .boolean),
  .constant "SurplusMatchModel" 84 1000000,
  .methodLink "SurplusMatchModel" 85 y_D_isFit,
  .instanceMethod y_D_isFit,
  .code y_D_isFit prog_7_method_10_code 5 (some .boolean),
  .methodLink "SurplusMatchLaw" 88 y_D_rules,
  .instanceMethod y_D_rules,
  .selects "SurplusMatchModel" y_D_rules y_D_rules,
  .code y_D_rules prog_7_method_12_code 4 (none : Option Jvm.ClassFile.FieldType),
  .methodLink "SurplusMatchLaw" 92 y_D_fits,
  .instanceMethod y_D_fits,
  .selects "SurplusMatchModel" y_D_fits y_D_fits,
  .code y_D_fits prog_7_method_13_code 3 (some .boolean),
  .methodLink "SurplusMatchLaw" 95 y_D_net,
  .instanceMethod y_D_net,
  .selects "SurplusMatchModel" y_D_net y_D_net,
  .code y_D_net prog_7_method_15_code 4 (some .int),
  .methodLink "SurplusMatchModel" 95 y_D_netOf,
  .instanceMethod y_D_netOf,
  .code y_D_netOf prog_7_method_14_code 4 (some .int),
  .methodLink "SurplusMatchLaw" 99 y_D_run,
  .instanceMethod y_D_run,
  .selects "SurplusMatchModel" y_D_run y_D_run,
  .code y_D_run prog_7_method_20_code 7 (some .int),
  .methodLink "SurplusMatchModel" 111 y_D_fill,
  .instanceMethod y_D_fill,
  .code y_D_fill prog_7_method_19_code 9 (none : Option Jvm.ClassFile.FieldType),
  .methodLink "SurplusMatchModel" 106 y_D_can,
  .instanceMethod y_D_can,
  .code y_D_can prog_7_method_18_code 5 (some .boolean),
  .methodLink "SurplusMatchModel" 99 y_D_reservation,
  .instanceMethod y_D_reservation,
  .code y_D_reservation prog_7_method_16_code 2 (some .int),
  .methodLink "SurplusMatchModel" 103 y_D_holder,
  .instanceMethod y_D_holder,
  .code y_D_holder prog_7_method_17_code 3 (some .int),
  .constantLong "SurplusMatchModel" 109 16,
  .methodLink "SurplusMatchLaw" 103 y_D_sum,
  .instanceMethod y_D_sum,
  .selects "SurplusMatchModel" y_D_sum y_D_sum,
  .code y_D_sum prog_7_method_21_code 1 (some .int),
  .methodLink "SurplusMatchLaw" 106 y_D_dual,
  .instanceMethod y_D_dual,
  .selects "SurplusMatchModel" y_D_dual y_D_dual,
  .code y_D_dual prog_7_method_22_code 4 (some .int),
  .methodLink "SurplusMatchLaw" 110 y_D_several,
  .instanceMethod y_D_several,
  .selects "SurplusMatchModel" y_D_several y_D_several,
  .code y_D_several prog_7_method_23_code 12 (some .int),
  .methodLink "SurplusMatchLaw" 113 y_D_orderOf,
  .instanceMethod y_D_orderOf,
  .selects "SurplusMatchModel" y_D_orderOf y_D_orderOf,
  .code y_D_orderOf prog_7_method_24_code 5 (some .int),
  .methodLink "SurplusMatchLaw" 116 y_D_reserve,
  .instanceMethod y_D_reserve,
  .selects "SurplusMatchModel" y_D_reserve y_D_reserve,
  .code y_D_reserve prog_7_method_25_code 6 (none : Option Jvm.ClassFile.FieldType),
  .methodLink "SurplusMatchLaw" 119 y_D_reserved,
  .instanceMethod y_D_reserved,
  .selects "SurplusMatchModel" y_D_reserved y_D_reserved,
  .code y_D_reserved prog_7_method_26_code 2 (some .int),
  .methodLink "SurplusMatchLaw" 123 y_D_undo,
  .instanceMethod y_D_undo,
  .selects "SurplusMatchModel" y_D_undo y_D_undo,
  .code y_D_undo prog_7_method_27_code 3 (none : Option Jvm.ClassFile.FieldType),
  .methodLink "SurplusMatchLaw" 126 y_D_sale,
  .instanceMethod y_D_sale,
  .selects "SurplusMatchModel" y_D_sale y_D_sale,
  .code y_D_sale prog_7_method_28_code 5 (some .int),
  .methodLink "SurplusMatchLaw" 129 y_D_tick,
  .instanceMethod y_D_tick,
  .selects "SurplusMatchModel" y_D_tick y_D_tick,
  .code y_D_tick prog_7_method_29_code 2 (some .int),
  .sameMethod "java/lang/Throwable" "java/lang/Throwable" "fillInStackTrace" "(I)Ljava/lang/Throwable;"]
theorem w0 (i : Nat) {w : Cond} (h : W0[i]? = some w) : w ∈ W0 := List.mem_of_getElem? h
theorem W0_good : W0.all goodWord = true := by decide +kernel
