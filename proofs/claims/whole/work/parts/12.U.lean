theorem d_U_isPieceUsed_0 : decode b_U_isPieceUsed 0 = .ok (.aload_n 0, 1) := by decide +kernel
theorem d_U_isPieceUsed_1 : decode b_U_isPieceUsed 1 = .ok (.getfield 9, 3) := by decide +kernel
theorem d_U_isPieceUsed_4 : decode b_U_isPieceUsed 4 = .ok (.iload_n 1, 1) := by decide +kernel
theorem d_U_isPieceUsed_5 : decode b_U_isPieceUsed 5 = .ok (.iaload, 1) := by decide +kernel
theorem d_U_isPieceUsed_6 : decode b_U_isPieceUsed 6 = .ok (.ifCond .eq 7, 3) := by decide +kernel
theorem d_U_isPieceUsed_9 : decode b_U_isPieceUsed 9 = .ok (.iconst 1, 1) := by decide +kernel
theorem d_U_isPieceUsed_10 : decode b_U_isPieceUsed 10 = .ok (.goto 4, 3) := by decide +kernel
theorem d_U_isPieceUsed_13 : decode b_U_isPieceUsed 13 = .ok (.iconst 0, 1) := by decide +kernel
theorem d_U_isPieceUsed_14 : decode b_U_isPieceUsed 14 = .ok (.ireturn, 1) := by decide +kernel
theorem d_U_isOrderUsed_0 : decode b_U_isOrderUsed 0 = .ok (.aload_n 0, 1) := by decide +kernel
theorem d_U_isOrderUsed_1 : decode b_U_isOrderUsed 1 = .ok (.getfield 15, 3) := by decide +kernel
theorem d_U_isOrderUsed_4 : decode b_U_isOrderUsed 4 = .ok (.iload_n 1, 1) := by decide +kernel
theorem d_U_isOrderUsed_5 : decode b_U_isOrderUsed 5 = .ok (.ishr, 1) := by decide +kernel
theorem d_U_isOrderUsed_6 : decode b_U_isOrderUsed 6 = .ok (.iconst 1, 1) := by decide +kernel
theorem d_U_isOrderUsed_7 : decode b_U_isOrderUsed 7 = .ok (.iand, 1) := by decide +kernel
theorem d_U_isOrderUsed_8 : decode b_U_isOrderUsed 8 = .ok (.iconst 1, 1) := by decide +kernel
theorem d_U_isOrderUsed_9 : decode b_U_isOrderUsed 9 = .ok (.if_icmp .ne 7, 3) := by decide +kernel
theorem d_U_isOrderUsed_12 : decode b_U_isOrderUsed 12 = .ok (.iconst 1, 1) := by decide +kernel
theorem d_U_isOrderUsed_13 : decode b_U_isOrderUsed 13 = .ok (.goto 4, 3) := by decide +kernel
theorem d_U_isOrderUsed_16 : decode b_U_isOrderUsed 16 = .ok (.iconst 0, 1) := by decide +kernel
theorem d_U_isOrderUsed_17 : decode b_U_isOrderUsed 17 = .ok (.ireturn, 1) := by decide +kernel
theorem d_U_orderAt_0 : decode b_U_orderAt 0 = .ok (.iconst 0, 1) := by decide +kernel
theorem d_U_orderAt_1 : decode b_U_orderAt 1 = .ok (.istore_n 3, 1) := by decide +kernel
theorem d_U_orderAt_2 : decode b_U_orderAt 2 = .ok (.iconst 0, 1) := by decide +kernel
theorem d_U_orderAt_3 : decode b_U_orderAt 3 = .ok (.istore 4, 2) := by decide +kernel
theorem d_U_orderAt_5 : decode b_U_orderAt 5 = .ok (.iload 4, 2) := by decide +kernel
theorem d_U_orderAt_7 : decode b_U_orderAt 7 = .ok (.bipush 10, 2) := by decide +kernel
theorem d_U_orderAt_9 : decode b_U_orderAt 9 = .ok (.if_icmp .ge 35, 3) := by decide +kernel
theorem d_U_orderAt_12 : decode b_U_orderAt 12 = .ok (.aload_n 0, 1) := by decide +kernel
theorem d_U_orderAt_13 : decode b_U_orderAt 13 = .ok (.getfield 9, 3) := by decide +kernel
theorem d_U_orderAt_16 : decode b_U_orderAt 16 = .ok (.iload_n 1, 1) := by decide +kernel
theorem d_U_orderAt_17 : decode b_U_orderAt 17 = .ok (.iaload, 1) := by decide +kernel
theorem d_U_orderAt_18 : decode b_U_orderAt 18 = .ok (.iload 4, 2) := by decide +kernel
theorem d_U_orderAt_20 : decode b_U_orderAt 20 = .ok (.ishr, 1) := by decide +kernel
theorem d_U_orderAt_21 : decode b_U_orderAt 21 = .ok (.iconst 1, 1) := by decide +kernel
theorem d_U_orderAt_22 : decode b_U_orderAt 22 = .ok (.iand, 1) := by decide +kernel
theorem d_U_orderAt_23 : decode b_U_orderAt 23 = .ok (.iconst 1, 1) := by decide +kernel
theorem d_U_orderAt_24 : decode b_U_orderAt 24 = .ok (.if_icmp .ne 14, 3) := by decide +kernel
theorem d_U_orderAt_27 : decode b_U_orderAt 27 = .ok (.iload_n 3, 1) := by decide +kernel
theorem d_U_orderAt_28 : decode b_U_orderAt 28 = .ok (.iload_n 2, 1) := by decide +kernel
theorem d_U_orderAt_29 : decode b_U_orderAt 29 = .ok (.if_icmp .ne 6, 3) := by decide +kernel
theorem d_U_orderAt_32 : decode b_U_orderAt 32 = .ok (.iload 4, 2) := by decide +kernel
theorem d_U_orderAt_34 : decode b_U_orderAt 34 = .ok (.ireturn, 1) := by decide +kernel
theorem d_U_orderAt_35 : decode b_U_orderAt 35 = .ok (.iinc 3 1, 3) := by decide +kernel
theorem d_U_orderAt_38 : decode b_U_orderAt 38 = .ok (.iinc 4 1, 3) := by decide +kernel
theorem d_U_orderAt_41 : decode b_U_orderAt 41 = .ok (.goto (-36), 3) := by decide +kernel
theorem d_U_orderAt_44 : decode b_U_orderAt 44 = .ok (.iconst (-1), 1) := by decide +kernel
theorem d_U_orderAt_45 : decode b_U_orderAt 45 = .ok (.ireturn, 1) := by decide +kernel
theorem d_U_use_0 : decode b_U_use 0 = .ok (.aload_n 0, 1) := by decide +kernel
theorem d_U_use_1 : decode b_U_use 1 = .ok (.getfield 9, 3) := by decide +kernel
theorem d_U_use_4 : decode b_U_use 4 = .ok (.iload_n 1, 1) := by decide +kernel
theorem d_U_use_5 : decode b_U_use 5 = .ok (.iload_n 2, 1) := by decide +kernel
theorem d_U_use_6 : decode b_U_use 6 = .ok (.iastore, 1) := by decide +kernel
theorem d_U_use_7 : decode b_U_use 7 = .ok (.aload_n 0, 1) := by decide +kernel
theorem d_U_use_8 : decode b_U_use 8 = .ok (.dup, 1) := by decide +kernel
theorem d_U_use_9 : decode b_U_use 9 = .ok (.getfield 15, 3) := by decide +kernel
theorem d_U_use_12 : decode b_U_use 12 = .ok (.iload_n 2, 1) := by decide +kernel
theorem d_U_use_13 : decode b_U_use 13 = .ok (.ior, 1) := by decide +kernel
theorem d_U_use_14 : decode b_U_use 14 = .ok (.putfield 15, 3) := by decide +kernel
theorem d_U_use_17 : decode b_U_use 17 = .ok (.return_, 1) := by decide +kernel
theorem d_U_free_0 : decode b_U_free 0 = .ok (.aload_n 0, 1) := by decide +kernel
theorem d_U_free_1 : decode b_U_free 1 = .ok (.dup, 1) := by decide +kernel
theorem d_U_free_2 : decode b_U_free 2 = .ok (.getfield 15, 3) := by decide +kernel
theorem d_U_free_5 : decode b_U_free 5 = .ok (.aload_n 0, 1) := by decide +kernel
theorem d_U_free_6 : decode b_U_free 6 = .ok (.getfield 9, 3) := by decide +kernel
theorem d_U_free_9 : decode b_U_free 9 = .ok (.iload_n 1, 1) := by decide +kernel
theorem d_U_free_10 : decode b_U_free 10 = .ok (.iaload, 1) := by decide +kernel
theorem d_U_free_11 : decode b_U_free 11 = .ok (.iconst (-1), 1) := by decide +kernel
theorem d_U_free_12 : decode b_U_free 12 = .ok (.ixor, 1) := by decide +kernel
theorem d_U_free_13 : decode b_U_free 13 = .ok (.iand, 1) := by decide +kernel
theorem d_U_free_14 : decode b_U_free 14 = .ok (.putfield 15, 3) := by decide +kernel
theorem d_U_free_17 : decode b_U_free 17 = .ok (.aload_n 0, 1) := by decide +kernel
theorem d_U_free_18 : decode b_U_free 18 = .ok (.getfield 9, 3) := by decide +kernel
theorem d_U_free_21 : decode b_U_free 21 = .ok (.iload_n 1, 1) := by decide +kernel
theorem d_U_free_22 : decode b_U_free 22 = .ok (.iconst 0, 1) := by decide +kernel
theorem d_U_free_23 : decode b_U_free 23 = .ok (.iastore, 1) := by decide +kernel
theorem d_U_free_24 : decode b_U_free 24 = .ok (.return_, 1) := by decide +kernel
def w_U_isPieceUsed : List Cond := .code y_U_isPieceUsed b_U_isPieceUsed 2 (some .boolean) :: W0
theorem q_U_isPieceUsed : y_U_isPieceUsed.cls = R_U ∧ y_U_isPieceUsed.cls ≠ "java/lang/invoke/MethodHandle" ∧ y_U_isPieceUsed.cls ≠ "java/lang/invoke/VarHandle" ∧ (parseMethodDescriptor y_U_isPieceUsed.desc).map (fun d => d.parameters.length) = some 1 := by decide +kernel
def m_U_isPieceUsed (u_ordersOfPiece : Nat → Int32) (x1 : Int32) : Option Int32 :=
  (if x1 < 0 ∨ 10 ≤ x1.toNatClampNeg then none else
(if (u_ordersOfPiece x1.toNatClampNeg) = 0 then
  some 0
 else
  some 1))
set_option maxHeartbeats 4000000 in
set_option maxRecDepth 100000 in
theorem c_U_isPieceUsed (l : Launch) (dC : Nat → ClassId) (dI : Nat → Nat → Nat) (cI : ClassId) (uq uq1 : Nat) (u_ordersOfPiece : Nat → Int32) (u_usedOrders : Int32) (x1 : Int32) (N : Nat) (res : Int32) (hm : m_U_isPieceUsed u_ordersOfPiece x1 = some res) : Met l y_U_isPieceUsed w_U_isPieceUsed ({ frames := 0, cells := 0, slots := 0, locals := 0 } : Room) (va_Pc [.ref uq, .int x1] (fun U => va_P (dC, dI) classes [(uq, .inr (1, [.ref uq1, .int u_usedOrders])), (uq1, .inl (cI, 10, .inl u_ordersOfPiece))] U.heap ∧ va_K (dC, dI) classes [(cI, .int)] U ∧ nw U)) (vp_Si (fun x => res = x)) 0 0 (fun _ => False) := by
  unfold m_U_isPieceUsed at hm
  refine Met.ofW (cc := b_U_isPieceUsed) (maxL := 2) (ret := (some .boolean)) (by decide) rfl ?_
  intro p e s m args below meth c s₁ B hml hv
  obtain ⟨rfl, hP, hK, hN⟩ := hv
  have hx := B.exec
  have hb := B.bytes
  have hr := B.returns
  have hts := atoms_spec (ws := w_U_isPieceUsed) B.pre
  have hown : s.vm.findClass R_U = some m.cls := findClass_of_methodNamed B.named
  have hlocks := B.notSynchronized
  have hk0 := hts (.fieldLink R_U 9 "SurplusMatch$Uses" "ordersOfPiece" "[I") (List.mem_cons_of_mem _ (w0 81 rfl))
  have hk1 : ∀ w ∈ w_U, w ∈ w_U_isPieceUsed := fun w h => List.mem_cons_of_mem _ (i_U w h)
  have hl := lv_entry ([.ref uq, .int x1]) (n := 2) (Nat.le_of_ble_eq_true rfl)
  rw [lg_entry_eq]
  generalize (lg_sl ([.ref uq, .int x1]) ++ List.replicate (2 - (lg_sl ([.ref uq, .int x1])).length) Slot.unset).toArray = ls at hl ⊢
  have hl : lv_has ls 2 [(0, .ref uq), (1, .int x1)] := hl
  refine lv_aload_n hx hb d_U_isPieceUsed_0 rfl (lv_at hl 0 rfl) ?_
  refine va_get (D := (dC, dI)) (ci := 1) (v := .ref uq1) (C := R_U) (T := F_U) (N := 2) hx hb hts hk1 hown hK hP 0 rfl rfl 0 (by decide) hk0 (fun _ h9 => h9) rfl d_U_isPieceUsed_1 ?_
  refine lv_iload_n hx hb d_U_isPieceUsed_4 rfl (lv_at hl 1 rfl) ?_
  obtain ⟨h9, hm⟩ := gd hm
  refine va_iald hx hb hK hP 1 0 rfl rfl h9 d_U_isPieceUsed_5 ?_
  refine lv_if_eq (tgt := 13) hx hb d_U_isPieceUsed_6 (by decide) (fun c9 => ?_) (fun c9 => ?_)
  · replace hm := if_t c9 hm
    refine lv_iconst (v := 0) hx hb d_U_isPieceUsed_13 (by decide) ?_
    cases hm
    exact W.zret hx hb hr (by decide) (fun t ht hW => ⟨_, rfl, rfl, ht⟩) (fun _ h => nomatch h) d_U_isPieceUsed_14
  · replace hm := if_f c9 hm
    refine lv_iconst (v := 1) hx hb d_U_isPieceUsed_9 (by decide) ?_
    refine lv_goto (tgt := 14) hx hb d_U_isPieceUsed_10 (by decide) ?_
    cases hm
    exact W.zret hx hb hr (by decide) (fun t ht hW => ⟨_, rfl, rfl, ht⟩) (fun _ h => nomatch h) d_U_isPieceUsed_14

def w_U_isOrderUsed : List Cond := .code y_U_isOrderUsed b_U_isOrderUsed 2 (some .boolean) :: W0
theorem q_U_isOrderUsed : y_U_isOrderUsed.cls = R_U ∧ y_U_isOrderUsed.cls ≠ "java/lang/invoke/MethodHandle" ∧ y_U_isOrderUsed.cls ≠ "java/lang/invoke/VarHandle" ∧ (parseMethodDescriptor y_U_isOrderUsed.desc).map (fun d => d.parameters.length) = some 1 := by decide +kernel
def m_U_isOrderUsed (u_usedOrders : Int32) (x1 : Int32) : Option Int32 :=
  (if ((u_usedOrders >>> (x1 &&& 31)) &&& 1) = 1 then
  some 1
 else
  some 0)
set_option maxHeartbeats 4000000 in
set_option maxRecDepth 100000 in
theorem c_U_isOrderUsed (l : Launch) (dC : Nat → ClassId) (dI : Nat → Nat → Nat) (cI : ClassId) (uq uq1 : Nat) (u_ordersOfPiece : Nat → Int32) (u_usedOrders : Int32) (x1 : Int32) (N : Nat) (res : Int32) (hm : m_U_isOrderUsed u_usedOrders x1 = some res) : Met l y_U_isOrderUsed w_U_isOrderUsed ({ frames := 0, cells := 0, slots := 0, locals := 0 } : Room) (va_Pc [.ref uq, .int x1] (fun U => va_P (dC, dI) classes [(uq, .inr (1, [.ref uq1, .int u_usedOrders])), (uq1, .inl (cI, 10, .inl u_ordersOfPiece))] U.heap ∧ va_K (dC, dI) classes [(cI, .int)] U ∧ nw U)) (vp_Si (fun x => res = x)) 0 0 (fun _ => False) := by
  unfold m_U_isOrderUsed at hm
  refine Met.ofW (cc := b_U_isOrderUsed) (maxL := 2) (ret := (some .boolean)) (by decide) rfl ?_
  intro p e s m args below meth c s₁ B hml hv
  obtain ⟨rfl, hP, hK, hN⟩ := hv
  have hx := B.exec
  have hb := B.bytes
  have hr := B.returns
  have hts := atoms_spec (ws := w_U_isOrderUsed) B.pre
  have hown : s.vm.findClass R_U = some m.cls := findClass_of_methodNamed B.named
  have hlocks := B.notSynchronized
  have hk0 := hts (.fieldLink R_U 15 "SurplusMatch$Uses" "usedOrders" "I") (List.mem_cons_of_mem _ (w0 82 rfl))
  have hk1 : ∀ w ∈ w_U, w ∈ w_U_isOrderUsed := fun w h => List.mem_cons_of_mem _ (i_U w h)
  have hl := lv_entry ([.ref uq, .int x1]) (n := 2) (Nat.le_of_ble_eq_true rfl)
  rw [lg_entry_eq]
  generalize (lg_sl ([.ref uq, .int x1]) ++ List.replicate (2 - (lg_sl ([.ref uq, .int x1])).length) Slot.unset).toArray = ls at hl ⊢
  have hl : lv_has ls 2 [(0, .ref uq), (1, .int x1)] := hl
  refine lv_aload_n hx hb d_U_isOrderUsed_0 rfl (lv_at hl 0 rfl) ?_
  refine va_get (D := (dC, dI)) (ci := 1) (v := .int u_usedOrders) (C := R_U) (T := F_U) (N := 2) hx hb hts hk1 hown hK hP 0 rfl rfl 1 (by decide) hk0 (fun _ h9 => h9) rfl d_U_isOrderUsed_1 ?_
  refine lv_iload_n hx hb d_U_isOrderUsed_4 rfl (lv_at hl 1 rfl) ?_
  refine lv_ishr hx hb d_U_isOrderUsed_5 ?_
  refine lv_iconst (v := 1) hx hb d_U_isOrderUsed_6 (by decide) ?_
  refine lv_iand hx hb d_U_isOrderUsed_7 ?_
  refine lv_iconst (v := 1) hx hb d_U_isOrderUsed_8 (by decide) ?_
  refine lv_icmp_ne (tgt := 16) hx hb d_U_isOrderUsed_9 (by decide) (fun c9 => ?_) (fun c9 => ?_)
  · replace hm := if_f c9 hm
    refine lv_iconst (v := 0) hx hb d_U_isOrderUsed_16 (by decide) ?_
    cases hm
    exact W.zret hx hb hr (by decide) (fun t ht hW => ⟨_, rfl, rfl, ht⟩) (fun _ h => nomatch h) d_U_isOrderUsed_17
  · replace hm := if_t c9 hm
    refine lv_iconst (v := 1) hx hb d_U_isOrderUsed_12 (by decide) ?_
    refine lv_goto (tgt := 17) hx hb d_U_isOrderUsed_13 (by decide) ?_
    cases hm
    exact W.zret hx hb hr (by decide) (fun t ht hW => ⟨_, rfl, rfl, ht⟩) (fun _ h => nomatch h) d_U_isOrderUsed_17

def w_U_orderAt : List Cond := .code y_U_orderAt b_U_orderAt 5 (some .int) :: W0
theorem q_U_orderAt : y_U_orderAt.cls = R_U ∧ y_U_orderAt.cls ≠ "java/lang/invoke/MethodHandle" ∧ y_U_orderAt.cls ≠ "java/lang/invoke/VarHandle" ∧ (parseMethodDescriptor y_U_orderAt.desc).map (fun d => d.parameters.length) = some 2 := by decide +kernel
def L_U_orderAt_5 (N : Nat) (u_ordersOfPiece : Nat → Int32) (K : Int32 → Int32 → Int32 → Int32 → Option Int32) : Nat → Int32 → Int32 → Int32 → Int32 → Option Int32
  | 0, _, _, _, _ => none
  | n + 1, y1a, y2a, y3a, y4a =>
    (if 10 ≤ y4a then
    K y1a y2a y3a y4a
   else
    (if y1a < 0 ∨ 10 ≤ y1a.toNatClampNeg then none else
    (if (((u_ordersOfPiece y1a.toNatClampNeg) >>> (y4a &&& 31)) &&& 1) = 1 then
      (if y3a = y2a then
        some y4a
       else
        L_U_orderAt_5 N u_ordersOfPiece K n y1a y2a (y3a + 1) (y4a + 1))
     else
      L_U_orderAt_5 N u_ordersOfPiece K n y1a y2a y3a (y4a + 1))))
def m_U_orderAt (N : Nat) (u_ordersOfPiece : Nat → Int32) (x1 : Int32) (x2 : Int32) : Option Int32 :=
  L_U_orderAt_5 N u_ordersOfPiece (fun y1a y2a y3a y4a =>
  some (-1)) N x1 x2 0 0
set_option maxHeartbeats 4000000 in
set_option maxRecDepth 100000 in
theorem c_U_orderAt (l : Launch) (dC : Nat → ClassId) (dI : Nat → Nat → Nat) (cI : ClassId) (uq uq1 : Nat) (u_ordersOfPiece : Nat → Int32) (u_usedOrders : Int32) (x1 : Int32) (x2 : Int32) (N : Nat) (res : Int32) (hm : m_U_orderAt N u_ordersOfPiece x1 x2 = some res) : Met l y_U_orderAt w_U_orderAt ({ frames := 0, cells := 0, slots := 0, locals := 0 } : Room) (va_Pc [.ref uq, .int x1, .int x2] (fun U => va_P (dC, dI) classes [(uq, .inr (1, [.ref uq1, .int u_usedOrders])), (uq1, .inl (cI, 10, .inl u_ordersOfPiece))] U.heap ∧ va_K (dC, dI) classes [(cI, .int)] U ∧ nw U)) (vp_Si (fun x => res = x)) 0 0 (fun _ => False) := by
  unfold m_U_orderAt at hm
  refine Met.ofW (cc := b_U_orderAt) (maxL := 5) (ret := (some .int)) (by decide) rfl ?_
  intro p e s m args below meth c s₁ B hml hv
  obtain ⟨rfl, hP, hK, hN⟩ := hv
  have hx := B.exec
  have hb := B.bytes
  have hr := B.returns
  have hts := atoms_spec (ws := w_U_orderAt) B.pre
  have hown : s.vm.findClass R_U = some m.cls := findClass_of_methodNamed B.named
  have hlocks := B.notSynchronized
  have hk0 := hts (.fieldLink R_U 9 "SurplusMatch$Uses" "ordersOfPiece" "[I") (List.mem_cons_of_mem _ (w0 81 rfl))
  have hk1 : ∀ w ∈ w_U, w ∈ w_U_orderAt := fun w h => List.mem_cons_of_mem _ (i_U w h)
  have hl := lv_entry ([.ref uq, .int x1, .int x2]) (n := 5) (Nat.le_of_ble_eq_true rfl)
  rw [lg_entry_eq]
  generalize (lg_sl ([.ref uq, .int x1, .int x2]) ++ List.replicate (5 - (lg_sl ([.ref uq, .int x1, .int x2])).length) Slot.unset).toArray = ls at hl ⊢
  have hl : lv_has ls 5 [(0, .ref uq), (1, .int x1), (2, .int x2)] := hl
  refine lv_iconst (v := 0) hx hb d_U_orderAt_0 (by decide) ?_
  refine lv_istore_n (lv' := [(3, .int 0), (0, .ref uq), (1, .int x1), (2, .int x2)]) hx hb d_U_orderAt_1 rfl hl (by decide) rfl (fun ls hl => ?_)
  refine lv_iconst (v := 0) hx hb d_U_orderAt_2 (by decide) ?_
  refine lv_istore (lv' := [(4, .int 0), (3, .int 0), (0, .ref uq), (1, .int x1), (2, .int x2)]) hx hb d_U_orderAt_3 hl (by decide) rfl (fun ls hl => ?_)
  have key5 : ∀ (K : Int32 → Int32 → Int32 → Int32 → Option Int32) (_ : ∀ (y1a : Int32) (y2a : Int32) (y3a : Int32) (y4a : Int32) (ls : Array Slot), lv_has ls 5 [(0, .ref uq), (1, .int y1a), (2, .int y2a), (3, .int y3a), (4, .int y4a)] → K y1a y2a y3a y4a = some res → W p l e (headSpec w_U_orderAt ({ frames := 0, cells := 0, slots := 0, locals := 0 } : Room)).room s m ([.ref uq, .int x1, .int x2] : List Value).toArray below meth c s.heap [] 0 0 (MQ below (vp_Si (fun x => res = x)) ([.ref uq, .int x1, .int x2] : List Value).toArray s 0 0 (fun _ => False)) (F0 m 44 ls [])) (n : Nat) (y1a : Int32) (y2a : Int32) (y3a : Int32) (y4a : Int32) (ls : Array Slot), lv_has ls 5 [(0, .ref uq), (1, .int y1a), (2, .int y2a), (3, .int y3a), (4, .int y4a)] → L_U_orderAt_5 N u_ordersOfPiece K n y1a y2a y3a y4a = some res → W p l e (headSpec w_U_orderAt ({ frames := 0, cells := 0, slots := 0, locals := 0 } : Room)).room s m ([.ref uq, .int x1, .int x2] : List Value).toArray below meth c s.heap [] 0 0 (MQ below (vp_Si (fun x => res = x)) ([.ref uq, .int x1, .int x2] : List Value).toArray s 0 0 (fun _ => False)) (F0 m 5 ls []) := by
    intro K hK5 n
    induction n with
    | zero => intro y1a y2a y3a y4a ls hl hm; exact absurd hm (by simp [L_U_orderAt_5])
    | succ n ih5 =>
      intro y1a y2a y3a y4a ls hl hm
      rw [L_U_orderAt_5] at hm
      refine lv_iload hx hb d_U_orderAt_5 (lv_at hl 4 rfl) ?_
      refine lv_bipush (v := 10) hx hb d_U_orderAt_7 (by decide) ?_
      refine lv_icmp_ge (tgt := 44) hx hb d_U_orderAt_9 (by decide) (fun c9 => ?_) (fun c9 => ?_)
      · replace hm := if_t c9 hm
        have hl : lv_has ls 5 [(0, .ref uq), (1, .int y1a), (2, .int y2a), (3, .int y3a), (4, .int y4a)] := lv_sub hl [0, 1, 2, 3, 4] rfl
        exact hK5 y1a y2a y3a y4a ls hl hm
      · replace hm := if_f c9 hm
        refine lv_aload_n hx hb d_U_orderAt_12 rfl (lv_at hl 0 rfl) ?_
        refine va_get (D := (dC, dI)) (ci := 1) (v := .ref uq1) (C := R_U) (T := F_U) (N := 2) hx hb hts hk1 hown hK hP 0 rfl rfl 0 (by decide) hk0 (fun _ h9 => h9) rfl d_U_orderAt_13 ?_
        refine lv_iload_n hx hb d_U_orderAt_16 rfl (lv_at hl 1 rfl) ?_
        obtain ⟨h9, hm⟩ := gd hm
        refine va_iald hx hb hK hP 1 0 rfl rfl h9 d_U_orderAt_17 ?_
        refine lv_iload hx hb d_U_orderAt_18 (lv_at hl 4 rfl) ?_
        refine lv_ishr hx hb d_U_orderAt_20 ?_
        refine lv_iconst (v := 1) hx hb d_U_orderAt_21 (by decide) ?_
        refine lv_iand hx hb d_U_orderAt_22 ?_
        refine lv_iconst (v := 1) hx hb d_U_orderAt_23 (by decide) ?_
        refine lv_icmp_ne (tgt := 38) hx hb d_U_orderAt_24 (by decide) (fun c9 => ?_) (fun c9 => ?_)
        · replace hm := if_f c9 hm
          refine lv_iinc (v := (y4a + 1)) (lv' := [(4, .int (y4a + 1)), (0, .ref uq), (1, .int y1a), (2, .int y2a), (3, .int y3a)]) hx hb d_U_orderAt_38 hl (k := 4) rfl rfl (by decide) rfl (fun ls hl => ?_)
          refine lv_goto (tgt := 5) hx hb d_U_orderAt_41 (by decide) ?_
          have hl : lv_has ls 5 [(0, .ref uq), (1, .int y1a), (2, .int y2a), (3, .int y3a), (4, .int (y4a + 1))] := lv_sub hl [1, 2, 3, 4, 0] rfl
          exact ih5 y1a y2a y3a (y4a + 1) ls hl hm
        · replace hm := if_t c9 hm
          refine lv_iload_n hx hb d_U_orderAt_27 rfl (lv_at hl 3 rfl) ?_
          refine lv_iload_n hx hb d_U_orderAt_28 rfl (lv_at hl 2 rfl) ?_
          refine lv_icmp_ne (tgt := 35) hx hb d_U_orderAt_29 (by decide) (fun c9 => ?_) (fun c9 => ?_)
          · replace hm := if_f c9 hm
            refine lv_iinc (v := (y3a + 1)) (lv' := [(3, .int (y3a + 1)), (0, .ref uq), (1, .int y1a), (2, .int y2a), (4, .int y4a)]) hx hb d_U_orderAt_35 hl (k := 3) rfl rfl (by decide) rfl (fun ls hl => ?_)
            refine lv_iinc (v := (y4a + 1)) (lv' := [(4, .int (y4a + 1)), (3, .int (y3a + 1)), (0, .ref uq), (1, .int y1a), (2, .int y2a)]) hx hb d_U_orderAt_38 hl (k := 4) rfl rfl (by decide) rfl (fun ls hl => ?_)
            refine lv_goto (tgt := 5) hx hb d_U_orderAt_41 (by decide) ?_
            have hl : lv_has ls 5 [(0, .ref uq), (1, .int y1a), (2, .int y2a), (3, .int (y3a + 1)), (4, .int (y4a + 1))] := lv_sub hl [2, 3, 4, 1, 0] rfl
            exact ih5 y1a y2a (y3a + 1) (y4a + 1) ls hl hm
          · replace hm := if_t c9 hm
            refine lv_iload hx hb d_U_orderAt_32 (lv_at hl 4 rfl) ?_
            cases hm
            exact W.iret hx hb hr (fun t ht hW => ⟨_, rfl, rfl, ht⟩) (fun _ h => nomatch h) d_U_orderAt_34
  have hl : lv_has ls 5 [(0, .ref uq), (1, .int x1), (2, .int x2), (3, .int 0), (4, .int 0)] := lv_sub hl [2, 3, 4, 1, 0] rfl
  refine key5 _ (fun y1a y2a y3a y4a ls hl hm => ?_) N x1 x2 0 0 ls hl hm
  try dsimp only at hm
  refine lv_iconst (v := (-1)) hx hb d_U_orderAt_44 (by decide) ?_
  cases hm
  exact W.iret hx hb hr (fun t ht hW => ⟨_, rfl, rfl, ht⟩) (fun _ h => nomatch h) d_U_orderAt_45

def w_U_use : List Cond := .code y_U_use b_U_use 3 none :: W0
theorem q_U_use : y_U_use.cls = R_U ∧ y_U_use.cls ≠ "java/lang/invoke/MethodHandle" ∧ y_U_use.cls ≠ "java/lang/invoke/VarHandle" ∧ (parseMethodDescriptor y_U_use.desc).map (fun d => d.parameters.length) = some 2 := by decide +kernel
def m_U_use (u_ordersOfPiece : Nat → Int32) (u_usedOrders : Int32) (x1 : Int32) (x2 : Int32) : Option ((Nat → Int32) × Int32) :=
  (if x1 < 0 ∨ 10 ≤ x1.toNatClampNeg then none else
some ((upd u_ordersOfPiece x1.toNatClampNeg x2), (u_usedOrders ||| x2)))
set_option maxHeartbeats 4000000 in
set_option maxRecDepth 100000 in
theorem c_U_use (l : Launch) (dC : Nat → ClassId) (dI : Nat → Nat → Nat) (cI : ClassId) (uq uq1 : Nat) (sz : Nat) (u_ordersOfPiece : Nat → Int32) (u_usedOrders : Int32) (x1 : Int32) (x2 : Int32) (N : Nat) (res : (Nat → Int32) × Int32) (hm : m_U_use u_ordersOfPiece u_usedOrders x1 x2 = some res) : Met l y_U_use w_U_use ({ frames := 0, cells := 0, slots := 0, locals := 0 } : Room) (va_Pc [.ref uq, .int x1, .int x2] (fun U => U.heap.size = sz ∧ va_P (dC, dI) classes [(uq, .inr (1, [.ref uq1, .int u_usedOrders])), (uq1, .inl (cI, 10, .inl u_ordersOfPiece))] U.heap ∧ va_K (dC, dI) classes [(cI, .int)] U ∧ va_D (fun _ => True) [(uq, .inr (1, [.ref uq1, .int u_usedOrders])), (uq1, .inl (cI, 10, .inl u_ordersOfPiece))] ∧ nw U)) (va_Qv (fun _ : Unit => True) (fun _ t => va_P (dC, dI) classes [(uq, .inr (1, [.ref uq1, .int res.2])), (uq1, .inl (cI, 10, .inl res.1))] t.heap ∧ va_K (dC, dI) classes [(cI, .int)] t ∧ va_D (va_A [(uq, .inr (1, [.ref uq1, .int u_usedOrders])), (uq1, .inl (cI, 10, .inl u_ordersOfPiece))] sz) [(uq, .inr (1, [.ref uq1, .int res.2])), (uq1, .inl (cI, 10, .inl res.1))]) (va_A [(uq, .inr (1, [.ref uq1, .int u_usedOrders])), (uq1, .inl (cI, 10, .inl u_ordersOfPiece))] sz)) 0 0 (va_A [(uq, .inr (1, [.ref uq1, .int u_usedOrders])), (uq1, .inl (cI, 10, .inl u_ordersOfPiece))] sz) := by
  unfold m_U_use at hm
  refine Met.ofW (cc := b_U_use) (maxL := 3) (ret := none) (by decide) rfl ?_
  intro p e s m args below meth c s₁ B hml hv
  obtain ⟨rfl, hsz, hP, hK, hD0, hN⟩ := hv
  have hx := B.exec
  have hb := B.bytes
  have hr := B.returns
  have hts := atoms_spec (ws := w_U_use) B.pre
  have hown : s.vm.findClass R_U = some m.cls := findClass_of_methodNamed B.named
  have hlocks := B.notSynchronized
  subst hsz
  have hD := hD0.self (sz := s.heap.size)
  generalize hAe : va_A [(uq, .inr (1, [.ref uq1, .int u_usedOrders])), (uq1, .inl (cI, 10, .inl u_ordersOfPiece))] s.heap.size = A at hD ⊢
  have hA : ∀ q : Nat, s.heap.size ≤ q → A q := fun q h => by rw [← hAe]; exact Or.inr h
  have hS : va_S A s.heap s.heap [] := va_S.rf
  have hk0 := hts (.fieldLink R_U 9 "SurplusMatch$Uses" "ordersOfPiece" "[I") (List.mem_cons_of_mem _ (w0 81 rfl))
  have hk1 : ∀ w ∈ w_U, w ∈ w_U_use := fun w h => List.mem_cons_of_mem _ (i_U w h)
  have hk2 := hts (.fieldLink R_U 15 "SurplusMatch$Uses" "usedOrders" "I") (List.mem_cons_of_mem _ (w0 82 rfl))
  have hl := lv_entry ([.ref uq, .int x1, .int x2]) (n := 3) (Nat.le_of_ble_eq_true rfl)
  rw [lg_entry_eq]
  generalize (lg_sl ([.ref uq, .int x1, .int x2]) ++ List.replicate (3 - (lg_sl ([.ref uq, .int x1, .int x2])).length) Slot.unset).toArray = ls at hl ⊢
  have hl : lv_has ls 3 [(0, .ref uq), (1, .int x1), (2, .int x2)] := hl
  refine lv_aload_n hx hb d_U_use_0 rfl (lv_at hl 0 rfl) ?_
  refine va_get (D := (dC, dI)) (ci := 1) (v := .ref uq1) (C := R_U) (T := F_U) (N := 2) hx hb hts hk1 hown hK hP 0 rfl rfl 0 (by decide) hk0 (fun _ h9 => h9) rfl d_U_use_1 ?_
  refine lv_iload_n hx hb d_U_use_4 rfl (lv_at hl 1 rfl) ?_
  refine lv_iload_n hx hb d_U_use_5 rfl (lv_at hl 2 rfl) ?_
  obtain ⟨h9, hm⟩ := gd hm
  refine va_iast hx hb hK hP hD hS 1 0 rfl rfl h9 d_U_use_6 (fun H locs hP hD hS => ?_)
  have hP : va_P (dC, dI) classes [(uq, .inr (1, [.ref uq1, .int u_usedOrders])), (uq1, .inl (cI, 10, .inl (upd u_ordersOfPiece x1.toNatClampNeg x2)))] H := hP
  have hD : va_D A [(uq, .inr (1, [.ref uq1, .int u_usedOrders])), (uq1, .inl (cI, 10, .inl (upd u_ordersOfPiece x1.toNatClampNeg x2)))] := hD
  refine lv_aload_n hx hb d_U_use_7 rfl (lv_at hl 0 rfl) ?_
  refine lv_dup hx hb d_U_use_8 rfl ?_
  refine va_get (D := (dC, dI)) (ci := 1) (v := .int u_usedOrders) (C := R_U) (T := F_U) (N := 2) hx hb hts hk1 hown hK hP 0 rfl rfl 1 (by decide) hk2 (fun _ h9 => h9) rfl d_U_use_9 ?_
  refine lv_iload_n hx hb d_U_use_12 rfl (lv_at hl 2 rfl) ?_
  refine lv_ior hx hb d_U_use_13 ?_
  refine va_put (D := (dC, dI)) (ci := 1) (v := .int (u_usedOrders ||| x2)) (ty := .int) (C := R_U) (T := F_U) (N := 2) hx hb hts hk1 t_U t_U_ok n_U hown hK hP hD hS 0 rfl rfl 1 (by decide) hk2 (fun _ h9 => h9) rfl (by decide +kernel) rfl rfl (Nat.le_of_ble_eq_true rfl) d_U_use_14 (fun H locs hP hD hS => ?_)
  have hP : va_P (dC, dI) classes [(uq, .inr (1, [.ref uq1, .int (u_usedOrders ||| x2)])), (uq1, .inl (cI, 10, .inl (upd u_ordersOfPiece x1.toNatClampNeg x2)))] H := hP
  have hD : va_D A [(uq, .inr (1, [.ref uq1, .int (u_usedOrders ||| x2)])), (uq1, .inl (cI, 10, .inl (upd u_ordersOfPiece x1.toNatClampNeg x2)))] := hD
  cases hm
  refine W.widen (k := 0) (n := 0) (Nat.le_of_ble_eq_true rfl) (Nat.le_of_ble_eq_true rfl) ?_
  exact W.vret hx hb hr (fun t ht hW => ⟨⟨(), rfl, trivial, by rw [ht]; exact hP, va_K.moved hW.alike hK, hD⟩, hS.F ht⟩) hS.2.2 d_U_use_17

def w_U_free : List Cond := .code y_U_free b_U_free 2 none :: W0
theorem q_U_free : y_U_free.cls = R_U ∧ y_U_free.cls ≠ "java/lang/invoke/MethodHandle" ∧ y_U_free.cls ≠ "java/lang/invoke/VarHandle" ∧ (parseMethodDescriptor y_U_free.desc).map (fun d => d.parameters.length) = some 1 := by decide +kernel
def m_U_free (u_ordersOfPiece : Nat → Int32) (u_usedOrders : Int32) (x1 : Int32) : Option ((Nat → Int32) × Int32) :=
  (if x1 < 0 ∨ 10 ≤ x1.toNatClampNeg then none else
(if x1 < 0 ∨ 10 ≤ x1.toNatClampNeg then none else
some ((upd u_ordersOfPiece x1.toNatClampNeg 0), (u_usedOrders &&& ((u_ordersOfPiece x1.toNatClampNeg) ^^^ (-1))))))
set_option maxHeartbeats 4000000 in
set_option maxRecDepth 100000 in
theorem c_U_free (l : Launch) (dC : Nat → ClassId) (dI : Nat → Nat → Nat) (cI : ClassId) (uq uq1 : Nat) (sz : Nat) (u_ordersOfPiece : Nat → Int32) (u_usedOrders : Int32) (x1 : Int32) (N : Nat) (res : (Nat → Int32) × Int32) (hm : m_U_free u_ordersOfPiece u_usedOrders x1 = some res) : Met l y_U_free w_U_free ({ frames := 0, cells := 0, slots := 0, locals := 0 } : Room) (va_Pc [.ref uq, .int x1] (fun U => U.heap.size = sz ∧ va_P (dC, dI) classes [(uq, .inr (1, [.ref uq1, .int u_usedOrders])), (uq1, .inl (cI, 10, .inl u_ordersOfPiece))] U.heap ∧ va_K (dC, dI) classes [(cI, .int)] U ∧ va_D (fun _ => True) [(uq, .inr (1, [.ref uq1, .int u_usedOrders])), (uq1, .inl (cI, 10, .inl u_ordersOfPiece))] ∧ nw U)) (va_Qv (fun _ : Unit => True) (fun _ t => va_P (dC, dI) classes [(uq, .inr (1, [.ref uq1, .int res.2])), (uq1, .inl (cI, 10, .inl res.1))] t.heap ∧ va_K (dC, dI) classes [(cI, .int)] t ∧ va_D (va_A [(uq, .inr (1, [.ref uq1, .int u_usedOrders])), (uq1, .inl (cI, 10, .inl u_ordersOfPiece))] sz) [(uq, .inr (1, [.ref uq1, .int res.2])), (uq1, .inl (cI, 10, .inl res.1))]) (va_A [(uq, .inr (1, [.ref uq1, .int u_usedOrders])), (uq1, .inl (cI, 10, .inl u_ordersOfPiece))] sz)) 0 0 (va_A [(uq, .inr (1, [.ref uq1, .int u_usedOrders])), (uq1, .inl (cI, 10, .inl u_ordersOfPiece))] sz) := by
  unfold m_U_free at hm
  refine Met.ofW (cc := b_U_free) (maxL := 2) (ret := none) (by decide) rfl ?_
  intro p e s m args below meth c s₁ B hml hv
  obtain ⟨rfl, hsz, hP, hK, hD0, hN⟩ := hv
  have hx := B.exec
  have hb := B.bytes
  have hr := B.returns
  have hts := atoms_spec (ws := w_U_free) B.pre
  have hown : s.vm.findClass R_U = some m.cls := findClass_of_methodNamed B.named
  have hlocks := B.notSynchronized
  subst hsz
  have hD := hD0.self (sz := s.heap.size)
  generalize hAe : va_A [(uq, .inr (1, [.ref uq1, .int u_usedOrders])), (uq1, .inl (cI, 10, .inl u_ordersOfPiece))] s.heap.size = A at hD ⊢
  have hA : ∀ q : Nat, s.heap.size ≤ q → A q := fun q h => by rw [← hAe]; exact Or.inr h
  have hS : va_S A s.heap s.heap [] := va_S.rf
  have hk0 := hts (.fieldLink R_U 15 "SurplusMatch$Uses" "usedOrders" "I") (List.mem_cons_of_mem _ (w0 82 rfl))
  have hk1 : ∀ w ∈ w_U, w ∈ w_U_free := fun w h => List.mem_cons_of_mem _ (i_U w h)
  have hk2 := hts (.fieldLink R_U 9 "SurplusMatch$Uses" "ordersOfPiece" "[I") (List.mem_cons_of_mem _ (w0 81 rfl))
  have hl := lv_entry ([.ref uq, .int x1]) (n := 2) (Nat.le_of_ble_eq_true rfl)
  rw [lg_entry_eq]
  generalize (lg_sl ([.ref uq, .int x1]) ++ List.replicate (2 - (lg_sl ([.ref uq, .int x1])).length) Slot.unset).toArray = ls at hl ⊢
  have hl : lv_has ls 2 [(0, .ref uq), (1, .int x1)] := hl
  refine lv_aload_n hx hb d_U_free_0 rfl (lv_at hl 0 rfl) ?_
  refine lv_dup hx hb d_U_free_1 rfl ?_
  refine va_get (D := (dC, dI)) (ci := 1) (v := .int u_usedOrders) (C := R_U) (T := F_U) (N := 2) hx hb hts hk1 hown hK hP 0 rfl rfl 1 (by decide) hk0 (fun _ h9 => h9) rfl d_U_free_2 ?_
  refine lv_aload_n hx hb d_U_free_5 rfl (lv_at hl 0 rfl) ?_
  refine va_get (D := (dC, dI)) (ci := 1) (v := .ref uq1) (C := R_U) (T := F_U) (N := 2) hx hb hts hk1 hown hK hP 0 rfl rfl 0 (by decide) hk2 (fun _ h9 => h9) rfl d_U_free_6 ?_
  refine lv_iload_n hx hb d_U_free_9 rfl (lv_at hl 1 rfl) ?_
  obtain ⟨h9, hm⟩ := gd hm
  refine va_iald hx hb hK hP 1 0 rfl rfl h9 d_U_free_10 ?_
  refine lv_iconst (v := (-1)) hx hb d_U_free_11 (by decide) ?_
  refine lv_ixor hx hb d_U_free_12 ?_
  refine lv_iand hx hb d_U_free_13 ?_
  refine va_put (D := (dC, dI)) (ci := 1) (v := .int (u_usedOrders &&& ((u_ordersOfPiece x1.toNatClampNeg) ^^^ (-1)))) (ty := .int) (C := R_U) (T := F_U) (N := 2) hx hb hts hk1 t_U t_U_ok n_U hown hK hP hD hS 0 rfl rfl 1 (by decide) hk0 (fun _ h9 => h9) rfl (by decide +kernel) rfl rfl (Nat.le_of_ble_eq_true rfl) d_U_free_14 (fun H locs hP hD hS => ?_)
  have hP : va_P (dC, dI) classes [(uq, .inr (1, [.ref uq1, .int (u_usedOrders &&& ((u_ordersOfPiece x1.toNatClampNeg) ^^^ (-1)))])), (uq1, .inl (cI, 10, .inl u_ordersOfPiece))] H := hP
  have hD : va_D A [(uq, .inr (1, [.ref uq1, .int (u_usedOrders &&& ((u_ordersOfPiece x1.toNatClampNeg) ^^^ (-1)))])), (uq1, .inl (cI, 10, .inl u_ordersOfPiece))] := hD
  refine lv_aload_n hx hb d_U_free_17 rfl (lv_at hl 0 rfl) ?_
  refine va_get (D := (dC, dI)) (ci := 1) (v := .ref uq1) (C := R_U) (T := F_U) (N := 2) hx hb hts hk1 hown hK hP 0 rfl rfl 0 (by decide) hk2 (fun _ h9 => h9) rfl d_U_free_18 ?_
  refine lv_iload_n hx hb d_U_free_21 rfl (lv_at hl 1 rfl) ?_
  refine lv_iconst (v := 0) hx hb d_U_free_22 (by decide) ?_
  obtain ⟨h9, hm⟩ := gd hm
  refine va_iast hx hb hK hP hD hS 1 0 rfl rfl h9 d_U_free_23 (fun H locs hP hD hS => ?_)
  have hP : va_P (dC, dI) classes [(uq, .inr (1, [.ref uq1, .int (u_usedOrders &&& ((u_ordersOfPiece x1.toNatClampNeg) ^^^ (-1)))])), (uq1, .inl (cI, 10, .inl (upd u_ordersOfPiece x1.toNatClampNeg 0)))] H := hP
  have hD : va_D A [(uq, .inr (1, [.ref uq1, .int (u_usedOrders &&& ((u_ordersOfPiece x1.toNatClampNeg) ^^^ (-1)))])), (uq1, .inl (cI, 10, .inl (upd u_ordersOfPiece x1.toNatClampNeg 0)))] := hD
  cases hm
  refine W.widen (k := 0) (n := 0) (Nat.le_of_ble_eq_true rfl) (Nat.le_of_ble_eq_true rfl) ?_
  exact W.vret hx hb hr (fun t ht hW => ⟨⟨(), rfl, trivial, by rw [ht]; exact hP, va_K.moved hW.alike hK, hD⟩, hS.F ht⟩) hS.2.2 d_U_free_24

