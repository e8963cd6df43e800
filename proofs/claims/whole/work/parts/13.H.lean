theorem d_H_orderHeldBy_0 : decode b_H_orderHeldBy 0 = .ok (.aload_n 0, 1) := by decide +kernel
theorem d_H_orderHeldBy_1 : decode b_H_orderHeldBy 1 = .ok (.getfield 9, 3) := by decide +kernel
theorem d_H_orderHeldBy_4 : decode b_H_orderHeldBy 4 = .ok (.iload_n 1, 1) := by decide +kernel
theorem d_H_orderHeldBy_5 : decode b_H_orderHeldBy 5 = .ok (.iaload, 1) := by decide +kernel
theorem d_H_orderHeldBy_6 : decode b_H_orderHeldBy 6 = .ok (.ireturn, 1) := by decide +kernel
theorem d_H_isPieceHeld_0 : decode b_H_isPieceHeld 0 = .ok (.aload_n 0, 1) := by decide +kernel
theorem d_H_isPieceHeld_1 : decode b_H_isPieceHeld 1 = .ok (.getfield 9, 3) := by decide +kernel
theorem d_H_isPieceHeld_4 : decode b_H_isPieceHeld 4 = .ok (.iload_n 1, 1) := by decide +kernel
theorem d_H_isPieceHeld_5 : decode b_H_isPieceHeld 5 = .ok (.iaload, 1) := by decide +kernel
theorem d_H_isPieceHeld_6 : decode b_H_isPieceHeld 6 = .ok (.iconst (-1), 1) := by decide +kernel
theorem d_H_isPieceHeld_7 : decode b_H_isPieceHeld 7 = .ok (.if_icmp .eq 7, 3) := by decide +kernel
theorem d_H_isPieceHeld_10 : decode b_H_isPieceHeld 10 = .ok (.iconst 1, 1) := by decide +kernel
theorem d_H_isPieceHeld_11 : decode b_H_isPieceHeld 11 = .ok (.goto 4, 3) := by decide +kernel
theorem d_H_isPieceHeld_14 : decode b_H_isPieceHeld 14 = .ok (.iconst 0, 1) := by decide +kernel
theorem d_H_isPieceHeld_15 : decode b_H_isPieceHeld 15 = .ok (.ireturn, 1) := by decide +kernel
theorem d_H_isOrderHeld_0 : decode b_H_isOrderHeld 0 = .ok (.aload_n 0, 1) := by decide +kernel
theorem d_H_isOrderHeld_1 : decode b_H_isOrderHeld 1 = .ok (.getfield 18, 3) := by decide +kernel
theorem d_H_isOrderHeld_4 : decode b_H_isOrderHeld 4 = .ok (.iload_n 1, 1) := by decide +kernel
theorem d_H_isOrderHeld_5 : decode b_H_isOrderHeld 5 = .ok (.ishr, 1) := by decide +kernel
theorem d_H_isOrderHeld_6 : decode b_H_isOrderHeld 6 = .ok (.iconst 1, 1) := by decide +kernel
theorem d_H_isOrderHeld_7 : decode b_H_isOrderHeld 7 = .ok (.iand, 1) := by decide +kernel
theorem d_H_isOrderHeld_8 : decode b_H_isOrderHeld 8 = .ok (.iconst 1, 1) := by decide +kernel
theorem d_H_isOrderHeld_9 : decode b_H_isOrderHeld 9 = .ok (.if_icmp .ne 7, 3) := by decide +kernel
theorem d_H_isOrderHeld_12 : decode b_H_isOrderHeld 12 = .ok (.iconst 1, 1) := by decide +kernel
theorem d_H_isOrderHeld_13 : decode b_H_isOrderHeld 13 = .ok (.goto 4, 3) := by decide +kernel
theorem d_H_isOrderHeld_16 : decode b_H_isOrderHeld 16 = .ok (.iconst 0, 1) := by decide +kernel
theorem d_H_isOrderHeld_17 : decode b_H_isOrderHeld 17 = .ok (.ireturn, 1) := by decide +kernel
theorem d_H_lets_0 : decode b_H_lets 0 = .ok (.aload_n 0, 1) := by decide +kernel
theorem d_H_lets_1 : decode b_H_lets 1 = .ok (.getfield 9, 3) := by decide +kernel
theorem d_H_lets_4 : decode b_H_lets 4 = .ok (.iload_n 1, 1) := by decide +kernel
theorem d_H_lets_5 : decode b_H_lets 5 = .ok (.iaload, 1) := by decide +kernel
theorem d_H_lets_6 : decode b_H_lets 6 = .ok (.iload_n 2, 1) := by decide +kernel
theorem d_H_lets_7 : decode b_H_lets 7 = .ok (.if_icmp .eq 19, 3) := by decide +kernel
theorem d_H_lets_10 : decode b_H_lets 10 = .ok (.aload_n 0, 1) := by decide +kernel
theorem d_H_lets_11 : decode b_H_lets 11 = .ok (.iload_n 1, 1) := by decide +kernel
theorem d_H_lets_12 : decode b_H_lets 12 = .ok (.invokevirtual 22, 3) := by decide +kernel
theorem d_H_lets_15 : decode b_H_lets 15 = .ok (.ifCond .ne 15, 3) := by decide +kernel
theorem d_H_lets_18 : decode b_H_lets 18 = .ok (.aload_n 0, 1) := by decide +kernel
theorem d_H_lets_19 : decode b_H_lets 19 = .ok (.iload_n 2, 1) := by decide +kernel
theorem d_H_lets_20 : decode b_H_lets 20 = .ok (.invokevirtual 26, 3) := by decide +kernel
theorem d_H_lets_23 : decode b_H_lets 23 = .ok (.ifCond .ne 7, 3) := by decide +kernel
theorem d_H_lets_26 : decode b_H_lets 26 = .ok (.iconst 1, 1) := by decide +kernel
theorem d_H_lets_27 : decode b_H_lets 27 = .ok (.goto 4, 3) := by decide +kernel
theorem d_H_lets_30 : decode b_H_lets 30 = .ok (.iconst 0, 1) := by decide +kernel
theorem d_H_lets_31 : decode b_H_lets 31 = .ok (.ireturn, 1) := by decide +kernel
theorem d_H_hold_0 : decode b_H_hold 0 = .ok (.aload_n 0, 1) := by decide +kernel
theorem d_H_hold_1 : decode b_H_hold 1 = .ok (.getfield 9, 3) := by decide +kernel
theorem d_H_hold_4 : decode b_H_hold 4 = .ok (.iload_n 1, 1) := by decide +kernel
theorem d_H_hold_5 : decode b_H_hold 5 = .ok (.iload_n 2, 1) := by decide +kernel
theorem d_H_hold_6 : decode b_H_hold 6 = .ok (.iastore, 1) := by decide +kernel
theorem d_H_hold_7 : decode b_H_hold 7 = .ok (.aload_n 0, 1) := by decide +kernel
theorem d_H_hold_8 : decode b_H_hold 8 = .ok (.getfield 15, 3) := by decide +kernel
theorem d_H_hold_11 : decode b_H_hold 11 = .ok (.iload_n 1, 1) := by decide +kernel
theorem d_H_hold_12 : decode b_H_hold 12 = .ok (.iload_n 3, 1) := by decide +kernel
theorem d_H_hold_13 : decode b_H_hold 13 = .ok (.iastore, 1) := by decide +kernel
theorem d_H_hold_14 : decode b_H_hold 14 = .ok (.aload_n 0, 1) := by decide +kernel
theorem d_H_hold_15 : decode b_H_hold 15 = .ok (.dup, 1) := by decide +kernel
theorem d_H_hold_16 : decode b_H_hold 16 = .ok (.getfield 18, 3) := by decide +kernel
theorem d_H_hold_19 : decode b_H_hold 19 = .ok (.iconst 1, 1) := by decide +kernel
theorem d_H_hold_20 : decode b_H_hold 20 = .ok (.iload_n 2, 1) := by decide +kernel
theorem d_H_hold_21 : decode b_H_hold 21 = .ok (.ishl, 1) := by decide +kernel
theorem d_H_hold_22 : decode b_H_hold 22 = .ok (.ior, 1) := by decide +kernel
theorem d_H_hold_23 : decode b_H_hold 23 = .ok (.putfield 18, 3) := by decide +kernel
theorem d_H_hold_26 : decode b_H_hold 26 = .ok (.return_, 1) := by decide +kernel
theorem d_H_drop_0 : decode b_H_drop 0 = .ok (.aload_n 0, 1) := by decide +kernel
theorem d_H_drop_1 : decode b_H_drop 1 = .ok (.iload_n 1, 1) := by decide +kernel
theorem d_H_drop_2 : decode b_H_drop 2 = .ok (.invokevirtual 22, 3) := by decide +kernel
theorem d_H_drop_5 : decode b_H_drop 5 = .ok (.ifCond .eq 29, 3) := by decide +kernel
theorem d_H_drop_8 : decode b_H_drop 8 = .ok (.aload_n 0, 1) := by decide +kernel
theorem d_H_drop_9 : decode b_H_drop 9 = .ok (.dup, 1) := by decide +kernel
theorem d_H_drop_10 : decode b_H_drop 10 = .ok (.getfield 18, 3) := by decide +kernel
theorem d_H_drop_13 : decode b_H_drop 13 = .ok (.iconst 1, 1) := by decide +kernel
theorem d_H_drop_14 : decode b_H_drop 14 = .ok (.aload_n 0, 1) := by decide +kernel
theorem d_H_drop_15 : decode b_H_drop 15 = .ok (.getfield 9, 3) := by decide +kernel
theorem d_H_drop_18 : decode b_H_drop 18 = .ok (.iload_n 1, 1) := by decide +kernel
theorem d_H_drop_19 : decode b_H_drop 19 = .ok (.iaload, 1) := by decide +kernel
theorem d_H_drop_20 : decode b_H_drop 20 = .ok (.ishl, 1) := by decide +kernel
theorem d_H_drop_21 : decode b_H_drop 21 = .ok (.iconst (-1), 1) := by decide +kernel
theorem d_H_drop_22 : decode b_H_drop 22 = .ok (.ixor, 1) := by decide +kernel
theorem d_H_drop_23 : decode b_H_drop 23 = .ok (.iand, 1) := by decide +kernel
theorem d_H_drop_24 : decode b_H_drop 24 = .ok (.putfield 18, 3) := by decide +kernel
theorem d_H_drop_27 : decode b_H_drop 27 = .ok (.aload_n 0, 1) := by decide +kernel
theorem d_H_drop_28 : decode b_H_drop 28 = .ok (.getfield 9, 3) := by decide +kernel
theorem d_H_drop_31 : decode b_H_drop 31 = .ok (.iload_n 1, 1) := by decide +kernel
theorem d_H_drop_32 : decode b_H_drop 32 = .ok (.iconst (-1), 1) := by decide +kernel
theorem d_H_drop_33 : decode b_H_drop 33 = .ok (.iastore, 1) := by decide +kernel
theorem d_H_drop_34 : decode b_H_drop 34 = .ok (.return_, 1) := by decide +kernel
theorem d_H_dropBefore_0 : decode b_H_dropBefore 0 = .ok (.iconst 0, 1) := by decide +kernel
theorem d_H_dropBefore_1 : decode b_H_dropBefore 1 = .ok (.istore_n 2, 1) := by decide +kernel
theorem d_H_dropBefore_2 : decode b_H_dropBefore 2 = .ok (.iload_n 2, 1) := by decide +kernel
theorem d_H_dropBefore_3 : decode b_H_dropBefore 3 = .ok (.bipush 10, 2) := by decide +kernel
theorem d_H_dropBefore_5 : decode b_H_dropBefore 5 = .ok (.if_icmp .ge 24, 3) := by decide +kernel
theorem d_H_dropBefore_8 : decode b_H_dropBefore 8 = .ok (.aload_n 0, 1) := by decide +kernel
theorem d_H_dropBefore_9 : decode b_H_dropBefore 9 = .ok (.getfield 15, 3) := by decide +kernel
theorem d_H_dropBefore_12 : decode b_H_dropBefore 12 = .ok (.iload_n 2, 1) := by decide +kernel
theorem d_H_dropBefore_13 : decode b_H_dropBefore 13 = .ok (.iaload, 1) := by decide +kernel
theorem d_H_dropBefore_14 : decode b_H_dropBefore 14 = .ok (.iload_n 1, 1) := by decide +kernel
theorem d_H_dropBefore_15 : decode b_H_dropBefore 15 = .ok (.if_icmp .ge 8, 3) := by decide +kernel
theorem d_H_dropBefore_18 : decode b_H_dropBefore 18 = .ok (.aload_n 0, 1) := by decide +kernel
theorem d_H_dropBefore_19 : decode b_H_dropBefore 19 = .ok (.iload_n 2, 1) := by decide +kernel
theorem d_H_dropBefore_20 : decode b_H_dropBefore 20 = .ok (.invokevirtual 29, 3) := by decide +kernel
theorem d_H_dropBefore_23 : decode b_H_dropBefore 23 = .ok (.iinc 2 1, 3) := by decide +kernel
theorem d_H_dropBefore_26 : decode b_H_dropBefore 26 = .ok (.goto (-24), 3) := by decide +kernel
theorem d_H_dropBefore_29 : decode b_H_dropBefore 29 = .ok (.return_, 1) := by decide +kernel
def w_H_orderHeldBy : List Cond := .code y_H_orderHeldBy b_H_orderHeldBy 2 (some .int) :: W0
theorem q_H_orderHeldBy : y_H_orderHeldBy.cls = R_H ∧ y_H_orderHeldBy.cls ≠ "java/lang/invoke/MethodHandle" ∧ y_H_orderHeldBy.cls ≠ "java/lang/invoke/VarHandle" ∧ (parseMethodDescriptor y_H_orderHeldBy.desc).map (fun d => d.parameters.length) = some 1 := by decide +kernel
def m_H_orderHeldBy (h_orderOfPiece : Nat → Int32) (x1 : Int32) : Option Int32 :=
  (if x1 < 0 ∨ 10 ≤ x1.toNatClampNeg then none else
some (h_orderOfPiece x1.toNatClampNeg))
set_option maxHeartbeats 4000000 in
set_option maxRecDepth 100000 in
theorem c_H_orderHeldBy (l : Launch) (dC : Nat → ClassId) (dI : Nat → Nat → Nat) (cI : ClassId) (hq hq1 hq2 : Nat) (h_orderOfPiece : Nat → Int32) (h_lastDay : Nat → Int32) (h_heldOrders : Int32) (x1 : Int32) (N : Nat) (res : Int32) (hm : m_H_orderHeldBy h_orderOfPiece x1 = some res) : Met l y_H_orderHeldBy w_H_orderHeldBy ({ frames := 0, cells := 0, slots := 0, locals := 0 } : Room) (va_Pc [.ref hq, .int x1] (fun U => va_P (dC, dI) classes [(hq, .inr (2, [.ref hq1, .ref hq2, .int h_heldOrders])), (hq1, .inl (cI, 10, .inl h_orderOfPiece)), (hq2, .inl (cI, 10, .inl h_lastDay))] U.heap ∧ va_K (dC, dI) classes [(cI, .int)] U ∧ nw U)) (vp_Si (fun x => res = x)) 0 0 (fun _ => False) := by
  unfold m_H_orderHeldBy at hm
  refine Met.ofW (cc := b_H_orderHeldBy) (maxL := 2) (ret := (some .int)) (by decide) rfl ?_
  intro p e s m args below meth c s₁ B hml hv
  obtain ⟨rfl, hP, hK, hN⟩ := hv
  have hx := B.exec
  have hb := B.bytes
  have hr := B.returns
  have hts := atoms_spec (ws := w_H_orderHeldBy) B.pre
  have hown : s.vm.findClass R_H = some m.cls := findClass_of_methodNamed B.named
  have hlocks := B.notSynchronized
  have hk0 := hts (.fieldLink R_H 9 "SurplusMatch$Holds" "orderOfPiece" "[I") (List.mem_cons_of_mem _ (w0 94 rfl))
  have hk1 : ∀ w ∈ w_H, w ∈ w_H_orderHeldBy := fun w h => List.mem_cons_of_mem _ (i_H w h)
  have hl := lv_entry ([.ref hq, .int x1]) (n := 2) (Nat.le_of_ble_eq_true rfl)
  rw [lg_entry_eq]
  generalize (lg_sl ([.ref hq, .int x1]) ++ List.replicate (2 - (lg_sl ([.ref hq, .int x1])).length) Slot.unset).toArray = ls at hl ⊢
  have hl : lv_has ls 2 [(0, .ref hq), (1, .int x1)] := hl
  refine lv_aload_n hx hb d_H_orderHeldBy_0 rfl (lv_at hl 0 rfl) ?_
  refine va_get (D := (dC, dI)) (ci := 2) (v := .ref hq1) (C := R_H) (T := F_H) (N := 3) hx hb hts hk1 hown hK hP 0 rfl rfl 0 (by decide) hk0 (fun _ h9 => h9) rfl d_H_orderHeldBy_1 ?_
  refine lv_iload_n hx hb d_H_orderHeldBy_4 rfl (lv_at hl 1 rfl) ?_
  obtain ⟨h9, hm⟩ := gd hm
  refine va_iald hx hb hK hP 1 0 rfl rfl h9 d_H_orderHeldBy_5 ?_
  cases hm
  exact W.iret hx hb hr (fun t ht hW => ⟨_, rfl, rfl, ht⟩) (fun _ h => nomatch h) d_H_orderHeldBy_6

def w_H_isPieceHeld : List Cond := .code y_H_isPieceHeld b_H_isPieceHeld 2 (some .boolean) :: W0
theorem q_H_isPieceHeld : y_H_isPieceHeld.cls = R_H ∧ y_H_isPieceHeld.cls ≠ "java/lang/invoke/MethodHandle" ∧ y_H_isPieceHeld.cls ≠ "java/lang/invoke/VarHandle" ∧ (parseMethodDescriptor y_H_isPieceHeld.desc).map (fun d => d.parameters.length) = some 1 := by decide +kernel
def m_H_isPieceHeld (h_orderOfPiece : Nat → Int32) (x1 : Int32) : Option Int32 :=
  (if x1 < 0 ∨ 10 ≤ x1.toNatClampNeg then none else
(if (h_orderOfPiece x1.toNatClampNeg) = (-1) then
  some 0
 else
  some 1))
set_option maxHeartbeats 4000000 in
set_option maxRecDepth 100000 in
theorem c_H_isPieceHeld (l : Launch) (dC : Nat → ClassId) (dI : Nat → Nat → Nat) (cI : ClassId) (hq hq1 hq2 : Nat) (h_orderOfPiece : Nat → Int32) (h_lastDay : Nat → Int32) (h_heldOrders : Int32) (x1 : Int32) (N : Nat) (res : Int32) (hm : m_H_isPieceHeld h_orderOfPiece x1 = some res) : Met l y_H_isPieceHeld w_H_isPieceHeld ({ frames := 0, cells := 0, slots := 0, locals := 0 } : Room) (va_Pc [.ref hq, .int x1] (fun U => va_P (dC, dI) classes [(hq, .inr (2, [.ref hq1, .ref hq2, .int h_heldOrders])), (hq1, .inl (cI, 10, .inl h_orderOfPiece)), (hq2, .inl (cI, 10, .inl h_lastDay))] U.heap ∧ va_K (dC, dI) classes [(cI, .int)] U ∧ nw U)) (vp_Si (fun x => res = x)) 0 0 (fun _ => False) := by
  unfold m_H_isPieceHeld at hm
  refine Met.ofW (cc := b_H_isPieceHeld) (maxL := 2) (ret := (some .boolean)) (by decide) rfl ?_
  intro p e s m args below meth c s₁ B hml hv
  obtain ⟨rfl, hP, hK, hN⟩ := hv
  have hx := B.exec
  have hb := B.bytes
  have hr := B.returns
  have hts := atoms_spec (ws := w_H_isPieceHeld) B.pre
  have hown : s.vm.findClass R_H = some m.cls := findClass_of_methodNamed B.named
  have hlocks := B.notSynchronized
  have hk0 := hts (.fieldLink R_H 9 "SurplusMatch$Holds" "orderOfPiece" "[I") (List.mem_cons_of_mem _ (w0 94 rfl))
  have hk1 : ∀ w ∈ w_H, w ∈ w_H_isPieceHeld := fun w h => List.mem_cons_of_mem _ (i_H w h)
  have hl := lv_entry ([.ref hq, .int x1]) (n := 2) (Nat.le_of_ble_eq_true rfl)
  rw [lg_entry_eq]
  generalize (lg_sl ([.ref hq, .int x1]) ++ List.replicate (2 - (lg_sl ([.ref hq, .int x1])).length) Slot.unset).toArray = ls at hl ⊢
  have hl : lv_has ls 2 [(0, .ref hq), (1, .int x1)] := hl
  refine lv_aload_n hx hb d_H_isPieceHeld_0 rfl (lv_at hl 0 rfl) ?_
  refine va_get (D := (dC, dI)) (ci := 2) (v := .ref hq1) (C := R_H) (T := F_H) (N := 3) hx hb hts hk1 hown hK hP 0 rfl rfl 0 (by decide) hk0 (fun _ h9 => h9) rfl d_H_isPieceHeld_1 ?_
  refine lv_iload_n hx hb d_H_isPieceHeld_4 rfl (lv_at hl 1 rfl) ?_
  obtain ⟨h9, hm⟩ := gd hm
  refine va_iald hx hb hK hP 1 0 rfl rfl h9 d_H_isPieceHeld_5 ?_
  refine lv_iconst (v := (-1)) hx hb d_H_isPieceHeld_6 (by decide) ?_
  refine lv_icmp_eq (tgt := 14) hx hb d_H_isPieceHeld_7 (by decide) (fun c9 => ?_) (fun c9 => ?_)
  · replace hm := if_t c9 hm
    refine lv_iconst (v := 0) hx hb d_H_isPieceHeld_14 (by decide) ?_
    cases hm
    exact W.zret hx hb hr (by decide) (fun t ht hW => ⟨_, rfl, rfl, ht⟩) (fun _ h => nomatch h) d_H_isPieceHeld_15
  · replace hm := if_f c9 hm
    refine lv_iconst (v := 1) hx hb d_H_isPieceHeld_10 (by decide) ?_
    refine lv_goto (tgt := 15) hx hb d_H_isPieceHeld_11 (by decide) ?_
    cases hm
    exact W.zret hx hb hr (by decide) (fun t ht hW => ⟨_, rfl, rfl, ht⟩) (fun _ h => nomatch h) d_H_isPieceHeld_15

def w_H_isOrderHeld : List Cond := .code y_H_isOrderHeld b_H_isOrderHeld 2 (some .boolean) :: W0
theorem q_H_isOrderHeld : y_H_isOrderHeld.cls = R_H ∧ y_H_isOrderHeld.cls ≠ "java/lang/invoke/MethodHandle" ∧ y_H_isOrderHeld.cls ≠ "java/lang/invoke/VarHandle" ∧ (parseMethodDescriptor y_H_isOrderHeld.desc).map (fun d => d.parameters.length) = some 1 := by decide +kernel
def m_H_isOrderHeld (h_heldOrders : Int32) (x1 : Int32) : Option Int32 :=
  (if ((h_heldOrders >>> (x1 &&& 31)) &&& 1) = 1 then
  some 1
 else
  some 0)
set_option maxHeartbeats 4000000 in
set_option maxRecDepth 100000 in
theorem c_H_isOrderHeld (l : Launch) (dC : Nat → ClassId) (dI : Nat → Nat → Nat) (cI : ClassId) (hq hq1 hq2 : Nat) (h_orderOfPiece : Nat → Int32) (h_lastDay : Nat → Int32) (h_heldOrders : Int32) (x1 : Int32) (N : Nat) (res : Int32) (hm : m_H_isOrderHeld h_heldOrders x1 = some res) : Met l y_H_isOrderHeld w_H_isOrderHeld ({ frames := 0, cells := 0, slots := 0, locals := 0 } : Room) (va_Pc [.ref hq, .int x1] (fun U => va_P (dC, dI) classes [(hq, .inr (2, [.ref hq1, .ref hq2, .int h_heldOrders])), (hq1, .inl (cI, 10, .inl h_orderOfPiece)), (hq2, .inl (cI, 10, .inl h_lastDay))] U.heap ∧ va_K (dC, dI) classes [(cI, .int)] U ∧ nw U)) (vp_Si (fun x => res = x)) 0 0 (fun _ => False) := by
  unfold m_H_isOrderHeld at hm
  refine Met.ofW (cc := b_H_isOrderHeld) (maxL := 2) (ret := (some .boolean)) (by decide) rfl ?_
  intro p e s m args below meth c s₁ B hml hv
  obtain ⟨rfl, hP, hK, hN⟩ := hv
  have hx := B.exec
  have hb := B.bytes
  have hr := B.returns
  have hts := atoms_spec (ws := w_H_isOrderHeld) B.pre
  have hown : s.vm.findClass R_H = some m.cls := findClass_of_methodNamed B.named
  have hlocks := B.notSynchronized
  have hk0 := hts (.fieldLink R_H 18 "SurplusMatch$Holds" "heldOrders" "I") (List.mem_cons_of_mem _ (w0 96 rfl))
  have hk1 : ∀ w ∈ w_H, w ∈ w_H_isOrderHeld := fun w h => List.mem_cons_of_mem _ (i_H w h)
  have hl := lv_entry ([.ref hq, .int x1]) (n := 2) (Nat.le_of_ble_eq_true rfl)
  rw [lg_entry_eq]
  generalize (lg_sl ([.ref hq, .int x1]) ++ List.replicate (2 - (lg_sl ([.ref hq, .int x1])).length) Slot.unset).toArray = ls at hl ⊢
  have hl : lv_has ls 2 [(0, .ref hq), (1, .int x1)] := hl
  refine lv_aload_n hx hb d_H_isOrderHeld_0 rfl (lv_at hl 0 rfl) ?_
  refine va_get (D := (dC, dI)) (ci := 2) (v := .int h_heldOrders) (C := R_H) (T := F_H) (N := 3) hx hb hts hk1 hown hK hP 0 rfl rfl 2 (by decide) hk0 (fun _ h9 => h9) rfl d_H_isOrderHeld_1 ?_
  refine lv_iload_n hx hb d_H_isOrderHeld_4 rfl (lv_at hl 1 rfl) ?_
  refine lv_ishr hx hb d_H_isOrderHeld_5 ?_
  refine lv_iconst (v := 1) hx hb d_H_isOrderHeld_6 (by decide) ?_
  refine lv_iand hx hb d_H_isOrderHeld_7 ?_
  refine lv_iconst (v := 1) hx hb d_H_isOrderHeld_8 (by decide) ?_
  refine lv_icmp_ne (tgt := 16) hx hb d_H_isOrderHeld_9 (by decide) (fun c9 => ?_) (fun c9 => ?_)
  · replace hm := if_f c9 hm
    refine lv_iconst (v := 0) hx hb d_H_isOrderHeld_16 (by decide) ?_
    cases hm
    exact W.zret hx hb hr (by decide) (fun t ht hW => ⟨_, rfl, rfl, ht⟩) (fun _ h => nomatch h) d_H_isOrderHeld_17
  · replace hm := if_t c9 hm
    refine lv_iconst (v := 1) hx hb d_H_isOrderHeld_12 (by decide) ?_
    refine lv_goto (tgt := 17) hx hb d_H_isOrderHeld_13 (by decide) ?_
    cases hm
    exact W.zret hx hb hr (by decide) (fun t ht hW => ⟨_, rfl, rfl, ht⟩) (fun _ h => nomatch h) d_H_isOrderHeld_17

def w_H_lets : List Cond := .code y_H_lets b_H_lets 3 (some .boolean) :: W0
theorem q_H_lets : y_H_lets.cls = R_H ∧ y_H_lets.cls ≠ "java/lang/invoke/MethodHandle" ∧ y_H_lets.cls ≠ "java/lang/invoke/VarHandle" ∧ (parseMethodDescriptor y_H_lets.desc).map (fun d => d.parameters.length) = some 2 := by decide +kernel
def m_H_lets (h_orderOfPiece : Nat → Int32) (h_heldOrders : Int32) (x1 : Int32) (x2 : Int32) : Option Int32 :=
  (if x1 < 0 ∨ 10 ≤ x1.toNatClampNeg then none else
(if (h_orderOfPiece x1.toNatClampNeg) = x2 then
  some 1
 else
  ((m_H_isPieceHeld h_orderOfPiece x1).bind fun r1 =>
    (if r1 = 0 then
      ((m_H_isOrderHeld h_heldOrders x2).bind fun r2 =>
        (if r2 = 0 then
          some 1
         else
          some 0))
     else
      some 0))))
set_option maxHeartbeats 4000000 in
set_option maxRecDepth 100000 in
theorem c_H_lets (l : Launch) (dC : Nat → ClassId) (dI : Nat → Nat → Nat) (cI : ClassId) (hq hq1 hq2 : Nat) (h_orderOfPiece : Nat → Int32) (h_lastDay : Nat → Int32) (h_heldOrders : Int32) (x1 : Int32) (x2 : Int32) (N : Nat) (res : Int32) (hm : m_H_lets h_orderOfPiece h_heldOrders x1 x2 = some res) : Met l y_H_lets w_H_lets ({ frames := 1, cells := 0, slots := 0, locals := 21 } : Room) (va_Pc [.ref hq, .int x1, .int x2] (fun U => va_P (dC, dI) classes [(hq, .inr (2, [.ref hq1, .ref hq2, .int h_heldOrders])), (hq1, .inl (cI, 10, .inl h_orderOfPiece)), (hq2, .inl (cI, 10, .inl h_lastDay))] U.heap ∧ va_K (dC, dI) classes [(cI, .int)] U ∧ nw U)) (vp_Si (fun x => res = x)) 0 0 (fun _ => False) := by
  unfold m_H_lets at hm
  refine Met.ofW (cc := b_H_lets) (maxL := 3) (ret := (some .boolean)) (by decide) rfl ?_
  intro p e s m args below meth c s₁ B hml hv
  obtain ⟨rfl, hP, hK, hN⟩ := hv
  have hx := B.exec
  have hb := B.bytes
  have hr := B.returns
  have hts := atoms_spec (ws := w_H_lets) B.pre
  have hown : s.vm.findClass R_H = some m.cls := findClass_of_methodNamed B.named
  have hlocks := B.notSynchronized
  have hk0 := hts (.fieldLink R_H 9 "SurplusMatch$Holds" "orderOfPiece" "[I") (List.mem_cons_of_mem _ (w0 94 rfl))
  have hk1 : ∀ w ∈ w_H, w ∈ w_H_lets := fun w h => List.mem_cons_of_mem _ (i_H w h)
  have hl := lv_entry ([.ref hq, .int x1, .int x2]) (n := 3) (Nat.le_of_ble_eq_true rfl)
  rw [lg_entry_eq]
  generalize (lg_sl ([.ref hq, .int x1, .int x2]) ++ List.replicate (3 - (lg_sl ([.ref hq, .int x1, .int x2])).length) Slot.unset).toArray = ls at hl ⊢
  have hl : lv_has ls 3 [(0, .ref hq), (1, .int x1), (2, .int x2)] := hl
  refine lv_aload_n hx hb d_H_lets_0 rfl (lv_at hl 0 rfl) ?_
  refine va_get (D := (dC, dI)) (ci := 2) (v := .ref hq1) (C := R_H) (T := F_H) (N := 3) hx hb hts hk1 hown hK hP 0 rfl rfl 0 (by decide) hk0 (fun _ h9 => h9) rfl d_H_lets_1 ?_
  refine lv_iload_n hx hb d_H_lets_4 rfl (lv_at hl 1 rfl) ?_
  obtain ⟨h9, hm⟩ := gd hm
  refine va_iald hx hb hK hP 1 0 rfl rfl h9 d_H_lets_5 ?_
  refine lv_iload_n hx hb d_H_lets_6 rfl (lv_at hl 2 rfl) ?_
  refine lv_icmp_eq (tgt := 26) hx hb d_H_lets_7 (by decide) (fun c9 => ?_) (fun c9 => ?_)
  · replace hm := if_t c9 hm
    refine lv_iconst (v := 1) hx hb d_H_lets_26 (by decide) ?_
    refine lv_goto (tgt := 31) hx hb d_H_lets_27 (by decide) ?_
    cases hm
    exact W.zret hx hb hr (by decide) (fun t ht hW => ⟨_, rfl, rfl, ht⟩) (fun _ h => nomatch h) d_H_lets_31
  · replace hm := if_f c9 hm
    refine lv_aload_n hx hb d_H_lets_10 rfl (lv_at hl 0 rfl) ?_
    refine lv_iload_n hx hb d_H_lets_11 rfl (lv_at hl 1 rfl) ?_
    obtain ⟨r1, hc, hm⟩ := bd hm
    try dsimp only at hm
    refine vp_callSi (W.runV (As := [.int x1]) (rest := []) ⟨hx, hb, hml, hown, hts⟩ (c_H_isPieceHeld l dC dI cI hq hq1 hq2 h_orderOfPiece h_lastDay h_heldOrders x1 N r1 hc) (cwV 1 hts (gV (w0 205 rfl) (w0 206 rfl) (w0 207 rfl) (w0 31 rfl) (w0 208 rfl)) rfl rfl rfl q_H_isPieceHeld ⟨Nat.le_of_ble_eq_true rfl, Nat.le_of_ble_eq_true rfl⟩) (ro_preV [0, 1, 2] rfl hK hP hN 2 0 (R_H, F_H, 3) rfl rfl) rfl rfl hl.1 rfl (lv_room (Nat.le_of_ble_eq_true rfl)) d_H_lets_12 ⟨Nat.le_of_ble_eq_true rfl, Nat.le_of_ble_eq_true rfl⟩) (fun r9 hr9 => ?_)
    subst hr9
    refine lv_if_ne (tgt := 30) hx hb d_H_lets_15 (by decide) (fun c9 => ?_) (fun c9 => ?_)
    · replace hm := if_f c9 hm
      refine lv_iconst (v := 0) hx hb d_H_lets_30 (by decide) ?_
      cases hm
      exact W.zret hx hb hr (by decide) (fun t ht hW => ⟨_, rfl, rfl, ht⟩) (fun _ h => nomatch h) d_H_lets_31
    · replace hm := if_t c9 hm
      refine lv_aload_n hx hb d_H_lets_18 rfl (lv_at hl 0 rfl) ?_
      refine lv_iload_n hx hb d_H_lets_19 rfl (lv_at hl 2 rfl) ?_
      obtain ⟨r2, hc, hm⟩ := bd hm
      try dsimp only at hm
      refine vp_callSi (W.runV (As := [.int x2]) (rest := []) ⟨hx, hb, hml, hown, hts⟩ (c_H_isOrderHeld l dC dI cI hq hq1 hq2 h_orderOfPiece h_lastDay h_heldOrders x2 N r2 hc) (cwV 1 hts (gV (w0 209 rfl) (w0 210 rfl) (w0 211 rfl) (w0 31 rfl) (w0 212 rfl)) rfl rfl rfl q_H_isOrderHeld ⟨Nat.le_of_ble_eq_true rfl, Nat.le_of_ble_eq_true rfl⟩) (ro_preV [0, 1, 2] rfl hK hP hN 2 0 (R_H, F_H, 3) rfl rfl) rfl rfl hl.1 rfl (lv_room (Nat.le_of_ble_eq_true rfl)) d_H_lets_20 ⟨Nat.le_of_ble_eq_true rfl, Nat.le_of_ble_eq_true rfl⟩) (fun r9 hr9 => ?_)
      subst hr9
      refine lv_if_ne (tgt := 30) hx hb d_H_lets_23 (by decide) (fun c9 => ?_) (fun c9 => ?_)
      · replace hm := if_f c9 hm
        refine lv_iconst (v := 0) hx hb d_H_lets_30 (by decide) ?_
        cases hm
        exact W.zret hx hb hr (by decide) (fun t ht hW => ⟨_, rfl, rfl, ht⟩) (fun _ h => nomatch h) d_H_lets_31
      · replace hm := if_t c9 hm
        refine lv_iconst (v := 1) hx hb d_H_lets_26 (by decide) ?_
        refine lv_goto (tgt := 31) hx hb d_H_lets_27 (by decide) ?_
        cases hm
        exact W.zret hx hb hr (by decide) (fun t ht hW => ⟨_, rfl, rfl, ht⟩) (fun _ h => nomatch h) d_H_lets_31

def w_H_hold : List Cond := .code y_H_hold b_H_hold 4 none :: W0
theorem q_H_hold : y_H_hold.cls = R_H ∧ y_H_hold.cls ≠ "java/lang/invoke/MethodHandle" ∧ y_H_hold.cls ≠ "java/lang/invoke/VarHandle" ∧ (parseMethodDescriptor y_H_hold.desc).map (fun d => d.parameters.length) = some 3 := by decide +kernel
def m_H_hold (h_orderOfPiece : Nat → Int32) (h_lastDay : Nat → Int32) (h_heldOrders : Int32) (x1 : Int32) (x2 : Int32) (x3 : Int32) : Option ((Nat → Int32) × (Nat → Int32) × Int32) :=
  (if x1 < 0 ∨ 10 ≤ x1.toNatClampNeg then none else
(if x1 < 0 ∨ 10 ≤ x1.toNatClampNeg then none else
some ((upd h_orderOfPiece x1.toNatClampNeg x2), (upd h_lastDay x1.toNatClampNeg x3), (h_heldOrders ||| ((1 : Int32) <<< (x2 &&& 31))))))
set_option maxHeartbeats 4000000 in
set_option maxRecDepth 100000 in
theorem c_H_hold (l : Launch) (dC : Nat → ClassId) (dI : Nat → Nat → Nat) (cI : ClassId) (hq hq1 hq2 : Nat) (sz : Nat) (h_orderOfPiece : Nat → Int32) (h_lastDay : Nat → Int32) (h_heldOrders : Int32) (x1 : Int32) (x2 : Int32) (x3 : Int32) (N : Nat) (res : (Nat → Int32) × (Nat → Int32) × Int32) (hm : m_H_hold h_orderOfPiece h_lastDay h_heldOrders x1 x2 x3 = some res) : Met l y_H_hold w_H_hold ({ frames := 0, cells := 0, slots := 0, locals := 0 } : Room) (va_Pc [.ref hq, .int x1, .int x2, .int x3] (fun U => U.heap.size = sz ∧ va_P (dC, dI) classes [(hq, .inr (2, [.ref hq1, .ref hq2, .int h_heldOrders])), (hq1, .inl (cI, 10, .inl h_orderOfPiece)), (hq2, .inl (cI, 10, .inl h_lastDay))] U.heap ∧ va_K (dC, dI) classes [(cI, .int)] U ∧ va_D (fun _ => True) [(hq, .inr (2, [.ref hq1, .ref hq2, .int h_heldOrders])), (hq1, .inl (cI, 10, .inl h_orderOfPiece)), (hq2, .inl (cI, 10, .inl h_lastDay))] ∧ nw U)) (va_Qv (fun _ : Unit => True) (fun _ t => va_P (dC, dI) classes [(hq, .inr (2, [.ref hq1, .ref hq2, .int res.2.2])), (hq1, .inl (cI, 10, .inl res.1)), (hq2, .inl (cI, 10, .inl res.2.1))] t.heap ∧ va_K (dC, dI) classes [(cI, .int)] t ∧ va_D (va_A [(hq, .inr (2, [.ref hq1, .ref hq2, .int h_heldOrders])), (hq1, .inl (cI, 10, .inl h_orderOfPiece)), (hq2, .inl (cI, 10, .inl h_lastDay))] sz) [(hq, .inr (2, [.ref hq1, .ref hq2, .int res.2.2])), (hq1, .inl (cI, 10, .inl res.1)), (hq2, .inl (cI, 10, .inl res.2.1))]) (va_A [(hq, .inr (2, [.ref hq1, .ref hq2, .int h_heldOrders])), (hq1, .inl (cI, 10, .inl h_orderOfPiece)), (hq2, .inl (cI, 10, .inl h_lastDay))] sz)) 0 0 (va_A [(hq, .inr (2, [.ref hq1, .ref hq2, .int h_heldOrders])), (hq1, .inl (cI, 10, .inl h_orderOfPiece)), (hq2, .inl (cI, 10, .inl h_lastDay))] sz) := by
  unfold m_H_hold at hm
  refine Met.ofW (cc := b_H_hold) (maxL := 4) (ret := none) (by decide) rfl ?_
  intro p e s m args below meth c s₁ B hml hv
  obtain ⟨rfl, hsz, hP, hK, hD0, hN⟩ := hv
  have hx := B.exec
  have hb := B.bytes
  have hr := B.returns
  have hts := atoms_spec (ws := w_H_hold) B.pre
  have hown : s.vm.findClass R_H = some m.cls := findClass_of_methodNamed B.named
  have hlocks := B.notSynchronized
  subst hsz
  have hD := hD0.self (sz := s.heap.size)
  generalize hAe : va_A [(hq, .inr (2, [.ref hq1, .ref hq2, .int h_heldOrders])), (hq1, .inl (cI, 10, .inl h_orderOfPiece)), (hq2, .inl (cI, 10, .inl h_lastDay))] s.heap.size = A at hD ⊢
  have hA : ∀ q : Nat, s.heap.size ≤ q → A q := fun q h => by rw [← hAe]; exact Or.inr h
  have hS : va_S A s.heap s.heap [] := va_S.rf
  have hk0 := hts (.fieldLink R_H 9 "SurplusMatch$Holds" "orderOfPiece" "[I") (List.mem_cons_of_mem _ (w0 94 rfl))
  have hk1 : ∀ w ∈ w_H, w ∈ w_H_hold := fun w h => List.mem_cons_of_mem _ (i_H w h)
  have hk2 := hts (.fieldLink R_H 15 "SurplusMatch$Holds" "lastDay" "[I") (List.mem_cons_of_mem _ (w0 95 rfl))
  have hk3 := hts (.fieldLink R_H 18 "SurplusMatch$Holds" "heldOrders" "I") (List.mem_cons_of_mem _ (w0 96 rfl))
  have hl := lv_entry ([.ref hq, .int x1, .int x2, .int x3]) (n := 4) (Nat.le_of_ble_eq_true rfl)
  rw [lg_entry_eq]
  generalize (lg_sl ([.ref hq, .int x1, .int x2, .int x3]) ++ List.replicate (4 - (lg_sl ([.ref hq, .int x1, .int x2, .int x3])).length) Slot.unset).toArray = ls at hl ⊢
  have hl : lv_has ls 4 [(0, .ref hq), (1, .int x1), (2, .int x2), (3, .int x3)] := hl
  refine lv_aload_n hx hb d_H_hold_0 rfl (lv_at hl 0 rfl) ?_
  refine va_get (D := (dC, dI)) (ci := 2) (v := .ref hq1) (C := R_H) (T := F_H) (N := 3) hx hb hts hk1 hown hK hP 0 rfl rfl 0 (by decide) hk0 (fun _ h9 => h9) rfl d_H_hold_1 ?_
  refine lv_iload_n hx hb d_H_hold_4 rfl (lv_at hl 1 rfl) ?_
  refine lv_iload_n hx hb d_H_hold_5 rfl (lv_at hl 2 rfl) ?_
  obtain ⟨h9, hm⟩ := gd hm
  refine va_iast hx hb hK hP hD hS 1 0 rfl rfl h9 d_H_hold_6 (fun H locs hP hD hS => ?_)
  have hP : va_P (dC, dI) classes [(hq, .inr (2, [.ref hq1, .ref hq2, .int h_heldOrders])), (hq1, .inl (cI, 10, .inl (upd h_orderOfPiece x1.toNatClampNeg x2))), (hq2, .inl (cI, 10, .inl h_lastDay))] H := hP
  have hD : va_D A [(hq, .inr (2, [.ref hq1, .ref hq2, .int h_heldOrders])), (hq1, .inl (cI, 10, .inl (upd h_orderOfPiece x1.toNatClampNeg x2))), (hq2, .inl (cI, 10, .inl h_lastDay))] := hD
  refine lv_aload_n hx hb d_H_hold_7 rfl (lv_at hl 0 rfl) ?_
  refine va_get (D := (dC, dI)) (ci := 2) (v := .ref hq2) (C := R_H) (T := F_H) (N := 3) hx hb hts hk1 hown hK hP 0 rfl rfl 1 (by decide) hk2 (fun _ h9 => h9) rfl d_H_hold_8 ?_
  refine lv_iload_n hx hb d_H_hold_11 rfl (lv_at hl 1 rfl) ?_
  refine lv_iload_n hx hb d_H_hold_12 rfl (lv_at hl 3 rfl) ?_
  obtain ⟨h9, hm⟩ := gd hm
  refine va_iast hx hb hK hP hD hS 2 0 rfl rfl h9 d_H_hold_13 (fun H locs hP hD hS => ?_)
  have hP : va_P (dC, dI) classes [(hq, .inr (2, [.ref hq1, .ref hq2, .int h_heldOrders])), (hq1, .inl (cI, 10, .inl (upd h_orderOfPiece x1.toNatClampNeg x2))), (hq2, .inl (cI, 10, .inl (upd h_lastDay x1.toNatClampNeg x3)))] H := hP
  have hD : va_D A [(hq, .inr (2, [.ref hq1, .ref hq2, .int h_heldOrders])), (hq1, .inl (cI, 10, .inl (upd h_orderOfPiece x1.toNatClampNeg x2))), (hq2, .inl (cI, 10, .inl (upd h_lastDay x1.toNatClampNeg x3)))] := hD
  refine lv_aload_n hx hb d_H_hold_14 rfl (lv_at hl 0 rfl) ?_
  refine lv_dup hx hb d_H_hold_15 rfl ?_
  refine va_get (D := (dC, dI)) (ci := 2) (v := .int h_heldOrders) (C := R_H) (T := F_H) (N := 3) hx hb hts hk1 hown hK hP 0 rfl rfl 2 (by decide) hk3 (fun _ h9 => h9) rfl d_H_hold_16 ?_
  refine lv_iconst (v := 1) hx hb d_H_hold_19 (by decide) ?_
  refine lv_iload_n hx hb d_H_hold_20 rfl (lv_at hl 2 rfl) ?_
  refine lv_ishl hx hb d_H_hold_21 ?_
  refine lv_ior hx hb d_H_hold_22 ?_
  refine va_put (D := (dC, dI)) (ci := 2) (v := .int (h_heldOrders ||| ((1 : Int32) <<< (x2 &&& 31)))) (ty := .int) (C := R_H) (T := F_H) (N := 3) hx hb hts hk1 t_H t_H_ok n_H hown hK hP hD hS 0 rfl rfl 2 (by decide) hk3 (fun _ h9 => h9) rfl (by decide +kernel) rfl rfl (Nat.le_of_ble_eq_true rfl) d_H_hold_23 (fun H locs hP hD hS => ?_)
  have hP : va_P (dC, dI) classes [(hq, .inr (2, [.ref hq1, .ref hq2, .int (h_heldOrders ||| ((1 : Int32) <<< (x2 &&& 31)))])), (hq1, .inl (cI, 10, .inl (upd h_orderOfPiece x1.toNatClampNeg x2))), (hq2, .inl (cI, 10, .inl (upd h_lastDay x1.toNatClampNeg x3)))] H := hP
  have hD : va_D A [(hq, .inr (2, [.ref hq1, .ref hq2, .int (h_heldOrders ||| ((1 : Int32) <<< (x2 &&& 31)))])), (hq1, .inl (cI, 10, .inl (upd h_orderOfPiece x1.toNatClampNeg x2))), (hq2, .inl (cI, 10, .inl (upd h_lastDay x1.toNatClampNeg x3)))] := hD
  cases hm
  refine W.widen (k := 0) (n := 0) (Nat.le_of_ble_eq_true rfl) (Nat.le_of_ble_eq_true rfl) ?_
  exact W.vret hx hb hr (fun t ht hW => ⟨⟨(), rfl, trivial, by rw [ht]; exact hP, va_K.moved hW.alike hK, hD⟩, hS.F ht⟩) hS.2.2 d_H_hold_26

def w_H_drop : List Cond := .code y_H_drop b_H_drop 2 none :: W0
theorem q_H_drop : y_H_drop.cls = R_H ∧ y_H_drop.cls ≠ "java/lang/invoke/MethodHandle" ∧ y_H_drop.cls ≠ "java/lang/invoke/VarHandle" ∧ (parseMethodDescriptor y_H_drop.desc).map (fun d => d.parameters.length) = some 1 := by decide +kernel
def m_H_drop (h_orderOfPiece : Nat → Int32) (h_heldOrders : Int32) (x1 : Int32) : Option ((Nat → Int32) × Int32) :=
  ((m_H_isPieceHeld h_orderOfPiece x1).bind fun r1 =>
  (if r1 = 0 then
    some (h_orderOfPiece, h_heldOrders)
   else
    (if x1 < 0 ∨ 10 ≤ x1.toNatClampNeg then none else
    (if x1 < 0 ∨ 10 ≤ x1.toNatClampNeg then none else
    some ((upd h_orderOfPiece x1.toNatClampNeg (-1)), (h_heldOrders &&& (((1 : Int32) <<< ((h_orderOfPiece x1.toNatClampNeg) &&& 31)) ^^^ (-1))))))))
set_option maxHeartbeats 4000000 in
set_option maxRecDepth 100000 in
theorem c_H_drop (l : Launch) (dC : Nat → ClassId) (dI : Nat → Nat → Nat) (cI : ClassId) (hq hq1 hq2 : Nat) (sz : Nat) (h_orderOfPiece : Nat → Int32) (h_lastDay : Nat → Int32) (h_heldOrders : Int32) (x1 : Int32) (N : Nat) (res : (Nat → Int32) × Int32) (hm : m_H_drop h_orderOfPiece h_heldOrders x1 = some res) : Met l y_H_drop w_H_drop ({ frames := 1, cells := 0, slots := 0, locals := 21 } : Room) (va_Pc [.ref hq, .int x1] (fun U => U.heap.size = sz ∧ va_P (dC, dI) classes [(hq, .inr (2, [.ref hq1, .ref hq2, .int h_heldOrders])), (hq1, .inl (cI, 10, .inl h_orderOfPiece)), (hq2, .inl (cI, 10, .inl h_lastDay))] U.heap ∧ va_K (dC, dI) classes [(cI, .int)] U ∧ va_D (fun _ => True) [(hq, .inr (2, [.ref hq1, .ref hq2, .int h_heldOrders])), (hq1, .inl (cI, 10, .inl h_orderOfPiece)), (hq2, .inl (cI, 10, .inl h_lastDay))] ∧ nw U)) (va_Qv (fun _ : Unit => True) (fun _ t => va_P (dC, dI) classes [(hq, .inr (2, [.ref hq1, .ref hq2, .int res.2])), (hq1, .inl (cI, 10, .inl res.1)), (hq2, .inl (cI, 10, .inl h_lastDay))] t.heap ∧ va_K (dC, dI) classes [(cI, .int)] t ∧ va_D (va_A [(hq, .inr (2, [.ref hq1, .ref hq2, .int h_heldOrders])), (hq1, .inl (cI, 10, .inl h_orderOfPiece)), (hq2, .inl (cI, 10, .inl h_lastDay))] sz) [(hq, .inr (2, [.ref hq1, .ref hq2, .int res.2])), (hq1, .inl (cI, 10, .inl res.1)), (hq2, .inl (cI, 10, .inl h_lastDay))]) (va_A [(hq, .inr (2, [.ref hq1, .ref hq2, .int h_heldOrders])), (hq1, .inl (cI, 10, .inl h_orderOfPiece)), (hq2, .inl (cI, 10, .inl h_lastDay))] sz)) 0 0 (va_A [(hq, .inr (2, [.ref hq1, .ref hq2, .int h_heldOrders])), (hq1, .inl (cI, 10, .inl h_orderOfPiece)), (hq2, .inl (cI, 10, .inl h_lastDay))] sz) := by
  unfold m_H_drop at hm
  refine Met.ofW (cc := b_H_drop) (maxL := 2) (ret := none) (by decide) rfl ?_
  intro p e s m args below meth c s₁ B hml hv
  obtain ⟨rfl, hsz, hP, hK, hD0, hN⟩ := hv
  have hx := B.exec
  have hb := B.bytes
  have hr := B.returns
  have hts := atoms_spec (ws := w_H_drop) B.pre
  have hown : s.vm.findClass R_H = some m.cls := findClass_of_methodNamed B.named
  have hlocks := B.notSynchronized
  subst hsz
  have hD := hD0.self (sz := s.heap.size)
  generalize hAe : va_A [(hq, .inr (2, [.ref hq1, .ref hq2, .int h_heldOrders])), (hq1, .inl (cI, 10, .inl h_orderOfPiece)), (hq2, .inl (cI, 10, .inl h_lastDay))] s.heap.size = A at hD ⊢
  have hA : ∀ q : Nat, s.heap.size ≤ q → A q := fun q h => by rw [← hAe]; exact Or.inr h
  have hS : va_S A s.heap s.heap [] := va_S.rf
  have hk0 := hts (.fieldLink R_H 18 "SurplusMatch$Holds" "heldOrders" "I") (List.mem_cons_of_mem _ (w0 96 rfl))
  have hk1 : ∀ w ∈ w_H, w ∈ w_H_drop := fun w h => List.mem_cons_of_mem _ (i_H w h)
  have hk2 := hts (.fieldLink R_H 9 "SurplusMatch$Holds" "orderOfPiece" "[I") (List.mem_cons_of_mem _ (w0 94 rfl))
  have hl := lv_entry ([.ref hq, .int x1]) (n := 2) (Nat.le_of_ble_eq_true rfl)
  rw [lg_entry_eq]
  generalize (lg_sl ([.ref hq, .int x1]) ++ List.replicate (2 - (lg_sl ([.ref hq, .int x1])).length) Slot.unset).toArray = ls at hl ⊢
  have hl : lv_has ls 2 [(0, .ref hq), (1, .int x1)] := hl
  refine lv_aload_n hx hb d_H_drop_0 rfl (lv_at hl 0 rfl) ?_
  refine lv_iload_n hx hb d_H_drop_1 rfl (lv_at hl 1 rfl) ?_
  obtain ⟨r1, hc, hm⟩ := bd hm
  try dsimp only at hm
  refine vp_callSi (W.runV (As := [.int x1]) (rest := []) ⟨hx, hb, hml, hown, hts⟩ (c_H_isPieceHeld l dC dI cI hq hq1 hq2 h_orderOfPiece h_lastDay h_heldOrders x1 N r1 hc) (cwV 1 hts (gV (w0 205 rfl) (w0 206 rfl) (w0 207 rfl) (w0 31 rfl) (w0 208 rfl)) rfl rfl rfl q_H_isPieceHeld ⟨Nat.le_of_ble_eq_true rfl, Nat.le_of_ble_eq_true rfl⟩) (ro_preV [0, 1, 2] rfl hK hP hN 2 0 (R_H, F_H, 3) rfl rfl) rfl rfl hl.1 rfl (lv_room (Nat.le_of_ble_eq_true rfl)) d_H_drop_2 ⟨Nat.le_of_ble_eq_true rfl, Nat.le_of_ble_eq_true rfl⟩) (fun r9 hr9 => ?_)
  subst hr9
  refine lv_if_eq (tgt := 34) hx hb d_H_drop_5 (by decide) (fun c9 => ?_) (fun c9 => ?_)
  · replace hm := if_t c9 hm
    cases hm
    refine W.widen (k := 0) (n := 0) (Nat.le_of_ble_eq_true rfl) (Nat.le_of_ble_eq_true rfl) ?_
    exact W.vret hx hb hr (fun t ht hW => ⟨⟨(), rfl, trivial, by rw [ht]; exact hP, va_K.moved hW.alike hK, hD⟩, hS.F ht⟩) hS.2.2 d_H_drop_34
  · replace hm := if_f c9 hm
    refine lv_aload_n hx hb d_H_drop_8 rfl (lv_at hl 0 rfl) ?_
    refine lv_dup hx hb d_H_drop_9 rfl ?_
    refine va_get (D := (dC, dI)) (ci := 2) (v := .int h_heldOrders) (C := R_H) (T := F_H) (N := 3) hx hb hts hk1 hown hK hP 0 rfl rfl 2 (by decide) hk0 (fun _ h9 => h9) rfl d_H_drop_10 ?_
    refine lv_iconst (v := 1) hx hb d_H_drop_13 (by decide) ?_
    refine lv_aload_n hx hb d_H_drop_14 rfl (lv_at hl 0 rfl) ?_
    refine va_get (D := (dC, dI)) (ci := 2) (v := .ref hq1) (C := R_H) (T := F_H) (N := 3) hx hb hts hk1 hown hK hP 0 rfl rfl 0 (by decide) hk2 (fun _ h9 => h9) rfl d_H_drop_15 ?_
    refine lv_iload_n hx hb d_H_drop_18 rfl (lv_at hl 1 rfl) ?_
    obtain ⟨h9, hm⟩ := gd hm
    refine va_iald hx hb hK hP 1 0 rfl rfl h9 d_H_drop_19 ?_
    refine lv_ishl hx hb d_H_drop_20 ?_
    refine lv_iconst (v := (-1)) hx hb d_H_drop_21 (by decide) ?_
    refine lv_ixor hx hb d_H_drop_22 ?_
    refine lv_iand hx hb d_H_drop_23 ?_
    refine va_put (D := (dC, dI)) (ci := 2) (v := .int (h_heldOrders &&& (((1 : Int32) <<< ((h_orderOfPiece x1.toNatClampNeg) &&& 31)) ^^^ (-1)))) (ty := .int) (C := R_H) (T := F_H) (N := 3) hx hb hts hk1 t_H t_H_ok n_H hown hK hP hD hS 0 rfl rfl 2 (by decide) hk0 (fun _ h9 => h9) rfl (by decide +kernel) rfl rfl (Nat.le_of_ble_eq_true rfl) d_H_drop_24 (fun H locs hP hD hS => ?_)
    have hP : va_P (dC, dI) classes [(hq, .inr (2, [.ref hq1, .ref hq2, .int (h_heldOrders &&& (((1 : Int32) <<< ((h_orderOfPiece x1.toNatClampNeg) &&& 31)) ^^^ (-1)))])), (hq1, .inl (cI, 10, .inl h_orderOfPiece)), (hq2, .inl (cI, 10, .inl h_lastDay))] H := hP
    have hD : va_D A [(hq, .inr (2, [.ref hq1, .ref hq2, .int (h_heldOrders &&& (((1 : Int32) <<< ((h_orderOfPiece x1.toNatClampNeg) &&& 31)) ^^^ (-1)))])), (hq1, .inl (cI, 10, .inl h_orderOfPiece)), (hq2, .inl (cI, 10, .inl h_lastDay))] := hD
    refine lv_aload_n hx hb d_H_drop_27 rfl (lv_at hl 0 rfl) ?_
    refine va_get (D := (dC, dI)) (ci := 2) (v := .ref hq1) (C := R_H) (T := F_H) (N := 3) hx hb hts hk1 hown hK hP 0 rfl rfl 0 (by decide) hk2 (fun _ h9 => h9) rfl d_H_drop_28 ?_
    refine lv_iload_n hx hb d_H_drop_31 rfl (lv_at hl 1 rfl) ?_
    refine lv_iconst (v := (-1)) hx hb d_H_drop_32 (by decide) ?_
    obtain ⟨h9, hm⟩ := gd hm
    refine va_iast hx hb hK hP hD hS 1 0 rfl rfl h9 d_H_drop_33 (fun H locs hP hD hS => ?_)
    have hP : va_P (dC, dI) classes [(hq, .inr (2, [.ref hq1, .ref hq2, .int (h_heldOrders &&& (((1 : Int32) <<< ((h_orderOfPiece x1.toNatClampNeg) &&& 31)) ^^^ (-1)))])), (hq1, .inl (cI, 10, .inl (upd h_orderOfPiece x1.toNatClampNeg (-1)))), (hq2, .inl (cI, 10, .inl h_lastDay))] H := hP
    have hD : va_D A [(hq, .inr (2, [.ref hq1, .ref hq2, .int (h_heldOrders &&& (((1 : Int32) <<< ((h_orderOfPiece x1.toNatClampNeg) &&& 31)) ^^^ (-1)))])), (hq1, .inl (cI, 10, .inl (upd h_orderOfPiece x1.toNatClampNeg (-1)))), (hq2, .inl (cI, 10, .inl h_lastDay))] := hD
    cases hm
    refine W.widen (k := 0) (n := 0) (Nat.le_of_ble_eq_true rfl) (Nat.le_of_ble_eq_true rfl) ?_
    exact W.vret hx hb hr (fun t ht hW => ⟨⟨(), rfl, trivial, by rw [ht]; exact hP, va_K.moved hW.alike hK, hD⟩, hS.F ht⟩) hS.2.2 d_H_drop_34

def w_H_dropBefore : List Cond := .code y_H_dropBefore b_H_dropBefore 3 none :: W0
theorem q_H_dropBefore : y_H_dropBefore.cls = R_H ∧ y_H_dropBefore.cls ≠ "java/lang/invoke/MethodHandle" ∧ y_H_dropBefore.cls ≠ "java/lang/invoke/VarHandle" ∧ (parseMethodDescriptor y_H_dropBefore.desc).map (fun d => d.parameters.length) = some 1 := by decide +kernel
def L_H_dropBefore_2 (N : Nat) (h_lastDay : Nat → Int32) (K : Int32 → Int32 → (Nat → Int32) → Int32 → Option ((Nat → Int32) × Int32)) : Nat → Int32 → Int32 → (Nat → Int32) → Int32 → Option ((Nat → Int32) × Int32)
  | 0, _, _, _, _ => none
  | n + 1, y1a, y2a, h_orderOfPiecea, h_heldOrdersa =>
    (if 10 ≤ y2a then
    K y1a y2a h_orderOfPiecea h_heldOrdersa
   else
    (if y2a < 0 ∨ 10 ≤ y2a.toNatClampNeg then none else
    (if y1a ≤ (h_lastDay y2a.toNatClampNeg) then
      L_H_dropBefore_2 N h_lastDay K n y1a (y2a + 1) h_orderOfPiecea h_heldOrdersa
     else
      ((m_H_drop h_orderOfPiecea h_heldOrdersa y2a).bind fun (u2, u3) =>
        L_H_dropBefore_2 N h_lastDay K n y1a (y2a + 1) u2 u3))))
def m_H_dropBefore (N : Nat) (h_orderOfPiece : Nat → Int32) (h_lastDay : Nat → Int32) (h_heldOrders : Int32) (x1 : Int32) : Option ((Nat → Int32) × Int32) :=
  L_H_dropBefore_2 N h_lastDay (fun y1a y2a h_orderOfPiecea h_heldOrdersa =>
  some (h_orderOfPiecea, h_heldOrdersa)) N x1 0 h_orderOfPiece h_heldOrders
set_option maxHeartbeats 4000000 in
set_option maxRecDepth 100000 in
theorem c_H_dropBefore (l : Launch) (dC : Nat → ClassId) (dI : Nat → Nat → Nat) (cI : ClassId) (hq hq1 hq2 : Nat) (sz : Nat) (h_orderOfPiece : Nat → Int32) (h_lastDay : Nat → Int32) (h_heldOrders : Int32) (x1 : Int32) (N : Nat) (res : (Nat → Int32) × Int32) (hm : m_H_dropBefore N h_orderOfPiece h_lastDay h_heldOrders x1 = some res) : Met l y_H_dropBefore w_H_dropBefore ({ frames := 2, cells := 0, slots := 0, locals := 42 } : Room) (va_Pc [.ref hq, .int x1] (fun U => U.heap.size = sz ∧ va_P (dC, dI) classes [(hq, .inr (2, [.ref hq1, .ref hq2, .int h_heldOrders])), (hq1, .inl (cI, 10, .inl h_orderOfPiece)), (hq2, .inl (cI, 10, .inl h_lastDay))] U.heap ∧ va_K (dC, dI) classes [(cI, .int)] U ∧ va_D (fun _ => True) [(hq, .inr (2, [.ref hq1, .ref hq2, .int h_heldOrders])), (hq1, .inl (cI, 10, .inl h_orderOfPiece)), (hq2, .inl (cI, 10, .inl h_lastDay))] ∧ nw U)) (va_Qv (fun _ : Unit => True) (fun _ t => va_P (dC, dI) classes [(hq, .inr (2, [.ref hq1, .ref hq2, .int res.2])), (hq1, .inl (cI, 10, .inl res.1)), (hq2, .inl (cI, 10, .inl h_lastDay))] t.heap ∧ va_K (dC, dI) classes [(cI, .int)] t ∧ va_D (va_A [(hq, .inr (2, [.ref hq1, .ref hq2, .int h_heldOrders])), (hq1, .inl (cI, 10, .inl h_orderOfPiece)), (hq2, .inl (cI, 10, .inl h_lastDay))] sz) [(hq, .inr (2, [.ref hq1, .ref hq2, .int res.2])), (hq1, .inl (cI, 10, .inl res.1)), (hq2, .inl (cI, 10, .inl h_lastDay))]) (va_A [(hq, .inr (2, [.ref hq1, .ref hq2, .int h_heldOrders])), (hq1, .inl (cI, 10, .inl h_orderOfPiece)), (hq2, .inl (cI, 10, .inl h_lastDay))] sz)) 0 0 (va_A [(hq, .inr (2, [.ref hq1, .ref hq2, .int h_heldOrders])), (hq1, .inl (cI, 10, .inl h_orderOfPiece)), (hq2, .inl (cI, 10, .inl h_lastDay))] sz) := by
  unfold m_H_dropBefore at hm
  refine Met.ofW (cc := b_H_dropBefore) (maxL := 3) (ret := none) (by decide) rfl ?_
  intro p e s m args below meth c s₁ B hml hv
  obtain ⟨rfl, hsz, hP, hK, hD0, hN⟩ := hv
  have hx := B.exec
  have hb := B.bytes
  have hr := B.returns
  have hts := atoms_spec (ws := w_H_dropBefore) B.pre
  have hown : s.vm.findClass R_H = some m.cls := findClass_of_methodNamed B.named
  have hlocks := B.notSynchronized
  subst hsz
  have hD := hD0.self (sz := s.heap.size)
  generalize hAe : va_A [(hq, .inr (2, [.ref hq1, .ref hq2, .int h_heldOrders])), (hq1, .inl (cI, 10, .inl h_orderOfPiece)), (hq2, .inl (cI, 10, .inl h_lastDay))] s.heap.size = A at hD ⊢
  have hA : ∀ q : Nat, s.heap.size ≤ q → A q := fun q h => by rw [← hAe]; exact Or.inr h
  have hS : va_S A s.heap s.heap [] := va_S.rf
  have hk0 := hts (.fieldLink R_H 15 "SurplusMatch$Holds" "lastDay" "[I") (List.mem_cons_of_mem _ (w0 95 rfl))
  have hk1 : ∀ w ∈ w_H, w ∈ w_H_dropBefore := fun w h => List.mem_cons_of_mem _ (i_H w h)
  have hl := lv_entry ([.ref hq, .int x1]) (n := 3) (Nat.le_of_ble_eq_true rfl)
  rw [lg_entry_eq]
  generalize (lg_sl ([.ref hq, .int x1]) ++ List.replicate (3 - (lg_sl ([.ref hq, .int x1])).length) Slot.unset).toArray = ls at hl ⊢
  have hl : lv_has ls 3 [(0, .ref hq), (1, .int x1)] := hl
  refine lv_iconst (v := 0) hx hb d_H_dropBefore_0 (by decide) ?_
  refine lv_istore_n (lv' := [(2, .int 0), (0, .ref hq), (1, .int x1)]) hx hb d_H_dropBefore_1 rfl hl (by decide) rfl (fun ls hl => ?_)
  have key2 : ∀ (K : Int32 → Int32 → (Nat → Int32) → Int32 → Option ((Nat → Int32) × Int32)) (_ : ∀ (y1a : Int32) (y2a : Int32) (h_orderOfPiecea : Nat → Int32) (h_heldOrdersa : Int32) (H : Heap) (locs : List Loc) (ls : Array Slot), lv_has ls 3 [(0, .ref hq), (1, .int y1a), (2, .int y2a)] → va_P (dC, dI) classes [(hq, .inr (2, [.ref hq1, .ref hq2, .int h_heldOrdersa])), (hq1, .inl (cI, 10, .inl h_orderOfPiecea)), (hq2, .inl (cI, 10, .inl h_lastDay))] H → va_D A [(hq, .inr (2, [.ref hq1, .ref hq2, .int h_heldOrdersa])), (hq1, .inl (cI, 10, .inl h_orderOfPiecea)), (hq2, .inl (cI, 10, .inl h_lastDay))] → va_S A s.heap H locs → K y1a y2a h_orderOfPiecea h_heldOrdersa = some res → W p l e (headSpec w_H_dropBefore ({ frames := 2, cells := 0, slots := 0, locals := 42 } : Room)).room s m ([.ref hq, .int x1] : List Value).toArray below meth c H locs 0 0 (MQ below (va_Qv (fun _ : Unit => True) (fun _ t => va_P (dC, dI) classes [(hq, .inr (2, [.ref hq1, .ref hq2, .int res.2])), (hq1, .inl (cI, 10, .inl res.1)), (hq2, .inl (cI, 10, .inl h_lastDay))] t.heap ∧ va_K (dC, dI) classes [(cI, .int)] t ∧ va_D A [(hq, .inr (2, [.ref hq1, .ref hq2, .int res.2])), (hq1, .inl (cI, 10, .inl res.1)), (hq2, .inl (cI, 10, .inl h_lastDay))]) A) ([.ref hq, .int x1] : List Value).toArray s 0 0 A) (F0 m 29 ls [])) (n : Nat) (y1a : Int32) (y2a : Int32) (h_orderOfPiecea : Nat → Int32) (h_heldOrdersa : Int32) (H : Heap) (locs : List Loc) (ls : Array Slot), lv_has ls 3 [(0, .ref hq), (1, .int y1a), (2, .int y2a)] → va_P (dC, dI) classes [(hq, .inr (2, [.ref hq1, .ref hq2, .int h_heldOrdersa])), (hq1, .inl (cI, 10, .inl h_orderOfPiecea)), (hq2, .inl (cI, 10, .inl h_lastDay))] H → va_D A [(hq, .inr (2, [.ref hq1, .ref hq2, .int h_heldOrdersa])), (hq1, .inl (cI, 10, .inl h_orderOfPiecea)), (hq2, .inl (cI, 10, .inl h_lastDay))] → va_S A s.heap H locs → L_H_dropBefore_2 N h_lastDay K n y1a y2a h_orderOfPiecea h_heldOrdersa = some res → W p l e (headSpec w_H_dropBefore ({ frames := 2, cells := 0, slots := 0, locals := 42 } : Room)).room s m ([.ref hq, .int x1] : List Value).toArray below meth c H locs 0 0 (MQ below (va_Qv (fun _ : Unit => True) (fun _ t => va_P (dC, dI) classes [(hq, .inr (2, [.ref hq1, .ref hq2, .int res.2])), (hq1, .inl (cI, 10, .inl res.1)), (hq2, .inl (cI, 10, .inl h_lastDay))] t.heap ∧ va_K (dC, dI) classes [(cI, .int)] t ∧ va_D A [(hq, .inr (2, [.ref hq1, .ref hq2, .int res.2])), (hq1, .inl (cI, 10, .inl res.1)), (hq2, .inl (cI, 10, .inl h_lastDay))]) A) ([.ref hq, .int x1] : List Value).toArray s 0 0 A) (F0 m 2 ls []) := by
    intro K hK2 n
    induction n with
    | zero => intro y1a y2a h_orderOfPiecea h_heldOrdersa H locs ls hl hP hD hS hm; exact absurd hm (by simp [L_H_dropBefore_2])
    | succ n ih2 =>
      intro y1a y2a h_orderOfPiecea h_heldOrdersa H locs ls hl hP hD hS hm
      rw [L_H_dropBefore_2] at hm
      refine lv_iload_n hx hb d_H_dropBefore_2 rfl (lv_at hl 2 rfl) ?_
      refine lv_bipush (v := 10) hx hb d_H_dropBefore_3 (by decide) ?_
      refine lv_icmp_ge (tgt := 29) hx hb d_H_dropBefore_5 (by decide) (fun c9 => ?_) (fun c9 => ?_)
      · replace hm := if_t c9 hm
        have hl : lv_has ls 3 [(0, .ref hq), (1, .int y1a), (2, .int y2a)] := lv_sub hl [0, 1, 2] rfl
        exact hK2 y1a y2a h_orderOfPiecea h_heldOrdersa _ _ ls hl hP hD hS hm
      · replace hm := if_f c9 hm
        refine lv_aload_n hx hb d_H_dropBefore_8 rfl (lv_at hl 0 rfl) ?_
        refine va_get (D := (dC, dI)) (ci := 2) (v := .ref hq2) (C := R_H) (T := F_H) (N := 3) hx hb hts hk1 hown hK hP 0 rfl rfl 1 (by decide) hk0 (fun _ h9 => h9) rfl d_H_dropBefore_9 ?_
        refine lv_iload_n hx hb d_H_dropBefore_12 rfl (lv_at hl 2 rfl) ?_
        obtain ⟨h9, hm⟩ := gd hm
        refine va_iald hx hb hK hP 2 0 rfl rfl h9 d_H_dropBefore_13 ?_
        refine lv_iload_n hx hb d_H_dropBefore_14 rfl (lv_at hl 1 rfl) ?_
        refine lv_icmp_ge (tgt := 23) hx hb d_H_dropBefore_15 (by decide) (fun c9 => ?_) (fun c9 => ?_)
        · replace hm := if_t c9 hm
          refine lv_iinc (v := (y2a + 1)) (lv' := [(2, .int (y2a + 1)), (0, .ref hq), (1, .int y1a)]) hx hb d_H_dropBefore_23 hl (k := 2) rfl rfl (by decide) rfl (fun ls hl => ?_)
          refine lv_goto (tgt := 2) hx hb d_H_dropBefore_26 (by decide) ?_
          have hl : lv_has ls 3 [(0, .ref hq), (1, .int y1a), (2, .int (y2a + 1))] := lv_sub hl [1, 2, 0] rfl
          exact ih2 y1a (y2a + 1) h_orderOfPiecea h_heldOrdersa _ _ ls hl hP hD hS hm
        · replace hm := if_f c9 hm
          refine lv_aload_n hx hb d_H_dropBefore_18 rfl (lv_at hl 0 rfl) ?_
          refine lv_iload_n hx hb d_H_dropBefore_19 rfl (lv_at hl 2 rfl) ?_
          obtain ⟨⟨u2, u3⟩, hc, hm⟩ := bd hm
          try dsimp only at hm
          have hPc := hP.sub (ws' := [(hq, .inr (2, [.ref hq1, .ref hq2, .int h_heldOrdersa])), (hq1, .inl (cI, 10, .inl h_orderOfPiecea)), (hq2, .inl (cI, 10, .inl h_lastDay))]) [0, 1, 2] rfl
          have hDc := hD.sub (ws' := [(hq, .inr (2, [.ref hq1, .ref hq2, .int h_heldOrdersa])), (hq1, .inl (cI, 10, .inl h_orderOfPiecea)), (hq2, .inl (cI, 10, .inl h_lastDay))]) [0, 1, 2] (by decide) rfl
          have hFc := va_free (wc := [(hq, .inr (2, [.ref hq1, .ref hq2, .int h_heldOrdersa])), (hq1, .inl (cI, 10, .inl h_orderOfPiecea)), (hq2, .inl (cI, 10, .inl h_lastDay))]) hD hS hA [0, 1, 2] rfl
          refine va_callv (va_runV (As := [.int y2a]) (rest := []) ⟨hx, hb, hml, hown, hts⟩ (c_H_drop l dC dI cI hq hq1 hq2 H.size h_orderOfPiecea h_lastDay h_heldOrdersa y2a N (u2, u3) hc) (cwV 1 hts (gV (w0 586 rfl) (w0 274 rfl) (w0 275 rfl) (w0 31 rfl) (w0 276 rfl)) rfl rfl rfl q_H_drop ⟨Nat.le_of_ble_eq_true rfl, Nat.le_of_ble_eq_true rfl⟩) (wr_preV hK hPc hDc hN 2 0 (R_H, F_H, 3) rfl rfl) rfl rfl hl.1 rfl (lv_room (Nat.le_of_ble_eq_true rfl)) d_H_dropBefore_20 ⟨Nat.le_of_ble_eq_true rfl, Nat.le_of_ble_eq_true rfl⟩) hS (fun q _ h => hFc q h) hFc (fun u t H1 locs ht hvm hw hB hz1 hk1 hS => ?_)
          obtain ⟨hP1, hK1, hD1⟩ := hB
          rw [ht] at hP1
          obtain ⟨hP, hD⟩ := va_join (wr := []) (w1 := [(hq, .inr (2, [.ref hq1, .ref hq2, .int u3])), (hq1, .inl (cI, 10, .inl u2)), (hq2, .inl (cI, 10, .inl h_lastDay))]) hP hD [0, 1, 2] [] rfl rfl (by decide) (by decide) hk1 hFc hP1 hD1
          generalize H1 = H at hP hS ⊢
          have hP : va_P (dC, dI) classes [(hq, .inr (2, [.ref hq1, .ref hq2, .int u3])), (hq1, .inl (cI, 10, .inl u2)), (hq2, .inl (cI, 10, .inl h_lastDay))] H := hP
          have hD : va_D A [(hq, .inr (2, [.ref hq1, .ref hq2, .int u3])), (hq1, .inl (cI, 10, .inl u2)), (hq2, .inl (cI, 10, .inl h_lastDay))] := hD
          clear hP1 hD1 hPc hDc hFc hk1 hz1
          refine lv_iinc (v := (y2a + 1)) (lv' := [(2, .int (y2a + 1)), (0, .ref hq), (1, .int y1a)]) hx hb d_H_dropBefore_23 hl (k := 2) rfl rfl (by decide) rfl (fun ls hl => ?_)
          refine lv_goto (tgt := 2) hx hb d_H_dropBefore_26 (by decide) ?_
          have hl : lv_has ls 3 [(0, .ref hq), (1, .int y1a), (2, .int (y2a + 1))] := lv_sub hl [1, 2, 0] rfl
          exact ih2 y1a (y2a + 1) u2 u3 _ _ ls hl hP hD hS hm
  have hl : lv_has ls 3 [(0, .ref hq), (1, .int x1), (2, .int 0)] := lv_sub hl [1, 2, 0] rfl
  refine key2 _ (fun y1a y2a h_orderOfPiecea h_heldOrdersa H locs ls hl hP hD hS hm => ?_) N x1 0 h_orderOfPiece h_heldOrders _ _ ls hl hP hD hS hm
  try dsimp only at hm
  cases hm
  refine W.widen (k := 0) (n := 0) (Nat.le_of_ble_eq_true rfl) (Nat.le_of_ble_eq_true rfl) ?_
  exact W.vret hx hb hr (fun t ht hW => ⟨⟨(), rfl, trivial, by rw [ht]; exact hP, va_K.moved hW.alike hK, hD⟩, hS.F ht⟩) hS.2.2 d_H_dropBefore_29

