theorem d_B_size_0 : decode b_B_size 0 = .ok (.aload_n 0, 1) := by decide +kernel
theorem d_B_size_1 : decode b_B_size 1 = .ok (.getfield 24, 3) := by decide +kernel
theorem d_B_size_4 : decode b_B_size 4 = .ok (.ireturn, 1) := by decide +kernel
theorem d_B_has_0 : decode b_B_has 0 = .ok (.iload_n 1, 1) := by decide +kernel
theorem d_B_has_1 : decode b_B_has 1 = .ok (.ifCond .lt 15, 3) := by decide +kernel
theorem d_B_has_4 : decode b_B_has 4 = .ok (.iload_n 1, 1) := by decide +kernel
theorem d_B_has_5 : decode b_B_has 5 = .ok (.aload_n 0, 1) := by decide +kernel
theorem d_B_has_6 : decode b_B_has 6 = .ok (.getfield 24, 3) := by decide +kernel
theorem d_B_has_9 : decode b_B_has 9 = .ok (.if_icmp .ge 7, 3) := by decide +kernel
theorem d_B_has_12 : decode b_B_has 12 = .ok (.iconst 1, 1) := by decide +kernel
theorem d_B_has_13 : decode b_B_has 13 = .ok (.goto 4, 3) := by decide +kernel
theorem d_B_has_16 : decode b_B_has 16 = .ok (.iconst 0, 1) := by decide +kernel
theorem d_B_has_17 : decode b_B_has 17 = .ok (.ireturn, 1) := by decide +kernel
theorem d_B_isFull_0 : decode b_B_isFull 0 = .ok (.aload_n 0, 1) := by decide +kernel
theorem d_B_isFull_1 : decode b_B_isFull 1 = .ok (.getfield 24, 3) := by decide +kernel
theorem d_B_isFull_4 : decode b_B_isFull 4 = .ok (.bipush 10, 2) := by decide +kernel
theorem d_B_isFull_6 : decode b_B_isFull 6 = .ok (.if_icmp .lt 7, 3) := by decide +kernel
theorem d_B_isFull_9 : decode b_B_isFull 9 = .ok (.iconst 1, 1) := by decide +kernel
theorem d_B_isFull_10 : decode b_B_isFull 10 = .ok (.goto 4, 3) := by decide +kernel
theorem d_B_isFull_13 : decode b_B_isFull 13 = .ok (.iconst 0, 1) := by decide +kernel
theorem d_B_isFull_14 : decode b_B_isFull 14 = .ok (.ireturn, 1) := by decide +kernel
theorem d_B_suits_0 : decode b_B_suits 0 = .ok (.aload_n 0, 1) := by decide +kernel
theorem d_B_suits_1 : decode b_B_suits 1 = .ok (.getfield 21, 3) := by decide +kernel
theorem d_B_suits_4 : decode b_B_suits 4 = .ok (.iload_n 1, 1) := by decide +kernel
theorem d_B_suits_5 : decode b_B_suits 5 = .ok (.iaload, 1) := by decide +kernel
theorem d_B_suits_6 : decode b_B_suits 6 = .ok (.aload_n 2, 1) := by decide +kernel
theorem d_B_suits_7 : decode b_B_suits 7 = .ok (.getfield 21, 3) := by decide +kernel
theorem d_B_suits_10 : decode b_B_suits 10 = .ok (.iload_n 3, 1) := by decide +kernel
theorem d_B_suits_11 : decode b_B_suits 11 = .ok (.iaload, 1) := by decide +kernel
theorem d_B_suits_12 : decode b_B_suits 12 = .ok (.if_icmp .ne 52, 3) := by decide +kernel
theorem d_B_suits_15 : decode b_B_suits 15 = .ok (.aload_n 0, 1) := by decide +kernel
theorem d_B_suits_16 : decode b_B_suits 16 = .ok (.getfield 9, 3) := by decide +kernel
theorem d_B_suits_19 : decode b_B_suits 19 = .ok (.iload_n 1, 1) := by decide +kernel
theorem d_B_suits_20 : decode b_B_suits 20 = .ok (.iaload, 1) := by decide +kernel
theorem d_B_suits_21 : decode b_B_suits 21 = .ok (.aload_n 2, 1) := by decide +kernel
theorem d_B_suits_22 : decode b_B_suits 22 = .ok (.getfield 9, 3) := by decide +kernel
theorem d_B_suits_25 : decode b_B_suits 25 = .ok (.iload_n 3, 1) := by decide +kernel
theorem d_B_suits_26 : decode b_B_suits 26 = .ok (.iaload, 1) := by decide +kernel
theorem d_B_suits_27 : decode b_B_suits 27 = .ok (.if_icmp .ne 37, 3) := by decide +kernel
theorem d_B_suits_30 : decode b_B_suits 30 = .ok (.aload_n 0, 1) := by decide +kernel
theorem d_B_suits_31 : decode b_B_suits 31 = .ok (.getfield 15, 3) := by decide +kernel
theorem d_B_suits_34 : decode b_B_suits 34 = .ok (.iload_n 1, 1) := by decide +kernel
theorem d_B_suits_35 : decode b_B_suits 35 = .ok (.iaload, 1) := by decide +kernel
theorem d_B_suits_36 : decode b_B_suits 36 = .ok (.aload_n 2, 1) := by decide +kernel
theorem d_B_suits_37 : decode b_B_suits 37 = .ok (.getfield 15, 3) := by decide +kernel
theorem d_B_suits_40 : decode b_B_suits 40 = .ok (.iload_n 3, 1) := by decide +kernel
theorem d_B_suits_41 : decode b_B_suits 41 = .ok (.iaload, 1) := by decide +kernel
theorem d_B_suits_42 : decode b_B_suits 42 = .ok (.if_icmp .lt 22, 3) := by decide +kernel
theorem d_B_suits_45 : decode b_B_suits 45 = .ok (.aload_n 0, 1) := by decide +kernel
theorem d_B_suits_46 : decode b_B_suits 46 = .ok (.getfield 18, 3) := by decide +kernel
theorem d_B_suits_49 : decode b_B_suits 49 = .ok (.iload_n 1, 1) := by decide +kernel
theorem d_B_suits_50 : decode b_B_suits 50 = .ok (.iaload, 1) := by decide +kernel
theorem d_B_suits_51 : decode b_B_suits 51 = .ok (.aload_n 2, 1) := by decide +kernel
theorem d_B_suits_52 : decode b_B_suits 52 = .ok (.getfield 18, 3) := by decide +kernel
theorem d_B_suits_55 : decode b_B_suits 55 = .ok (.iload_n 3, 1) := by decide +kernel
theorem d_B_suits_56 : decode b_B_suits 56 = .ok (.iaload, 1) := by decide +kernel
theorem d_B_suits_57 : decode b_B_suits 57 = .ok (.if_icmp .lt 7, 3) := by decide +kernel
theorem d_B_suits_60 : decode b_B_suits 60 = .ok (.iconst 1, 1) := by decide +kernel
theorem d_B_suits_61 : decode b_B_suits 61 = .ok (.goto 4, 3) := by decide +kernel
theorem d_B_suits_64 : decode b_B_suits 64 = .ok (.iconst 0, 1) := by decide +kernel
theorem d_B_suits_65 : decode b_B_suits 65 = .ok (.ireturn, 1) := by decide +kernel
theorem d_B_sidesToCut_0 : decode b_B_sidesToCut 0 = .ok (.aload_n 0, 1) := by decide +kernel
theorem d_B_sidesToCut_1 : decode b_B_sidesToCut 1 = .ok (.getfield 15, 3) := by decide +kernel
theorem d_B_sidesToCut_4 : decode b_B_sidesToCut 4 = .ok (.iload_n 1, 1) := by decide +kernel
theorem d_B_sidesToCut_5 : decode b_B_sidesToCut 5 = .ok (.iaload, 1) := by decide +kernel
theorem d_B_sidesToCut_6 : decode b_B_sidesToCut 6 = .ok (.aload_n 2, 1) := by decide +kernel
theorem d_B_sidesToCut_7 : decode b_B_sidesToCut 7 = .ok (.getfield 15, 3) := by decide +kernel
theorem d_B_sidesToCut_10 : decode b_B_sidesToCut 10 = .ok (.iload_n 3, 1) := by decide +kernel
theorem d_B_sidesToCut_11 : decode b_B_sidesToCut 11 = .ok (.iaload, 1) := by decide +kernel
theorem d_B_sidesToCut_12 : decode b_B_sidesToCut 12 = .ok (.if_icmp .ne 7, 3) := by decide +kernel
theorem d_B_sidesToCut_15 : decode b_B_sidesToCut 15 = .ok (.iconst 0, 1) := by decide +kernel
theorem d_B_sidesToCut_16 : decode b_B_sidesToCut 16 = .ok (.goto 4, 3) := by decide +kernel
theorem d_B_sidesToCut_19 : decode b_B_sidesToCut 19 = .ok (.iconst 1, 1) := by decide +kernel
theorem d_B_sidesToCut_20 : decode b_B_sidesToCut 20 = .ok (.istore 4, 2) := by decide +kernel
theorem d_B_sidesToCut_22 : decode b_B_sidesToCut 22 = .ok (.aload_n 0, 1) := by decide +kernel
theorem d_B_sidesToCut_23 : decode b_B_sidesToCut 23 = .ok (.getfield 18, 3) := by decide +kernel
theorem d_B_sidesToCut_26 : decode b_B_sidesToCut 26 = .ok (.iload_n 1, 1) := by decide +kernel
theorem d_B_sidesToCut_27 : decode b_B_sidesToCut 27 = .ok (.iaload, 1) := by decide +kernel
theorem d_B_sidesToCut_28 : decode b_B_sidesToCut 28 = .ok (.aload_n 2, 1) := by decide +kernel
theorem d_B_sidesToCut_29 : decode b_B_sidesToCut 29 = .ok (.getfield 18, 3) := by decide +kernel
theorem d_B_sidesToCut_32 : decode b_B_sidesToCut 32 = .ok (.iload_n 3, 1) := by decide +kernel
theorem d_B_sidesToCut_33 : decode b_B_sidesToCut 33 = .ok (.iaload, 1) := by decide +kernel
theorem d_B_sidesToCut_34 : decode b_B_sidesToCut 34 = .ok (.if_icmp .ne 7, 3) := by decide +kernel
theorem d_B_sidesToCut_37 : decode b_B_sidesToCut 37 = .ok (.iconst 0, 1) := by decide +kernel
theorem d_B_sidesToCut_38 : decode b_B_sidesToCut 38 = .ok (.goto 4, 3) := by decide +kernel
theorem d_B_sidesToCut_41 : decode b_B_sidesToCut 41 = .ok (.iconst 1, 1) := by decide +kernel
theorem d_B_sidesToCut_42 : decode b_B_sidesToCut 42 = .ok (.istore 5, 2) := by decide +kernel
theorem d_B_sidesToCut_44 : decode b_B_sidesToCut 44 = .ok (.iload 4, 2) := by decide +kernel
theorem d_B_sidesToCut_46 : decode b_B_sidesToCut 46 = .ok (.iload 5, 2) := by decide +kernel
theorem d_B_sidesToCut_48 : decode b_B_sidesToCut 48 = .ok (.iadd, 1) := by decide +kernel
theorem d_B_sidesToCut_49 : decode b_B_sidesToCut 49 = .ok (.ireturn, 1) := by decide +kernel
theorem d_B_lengthOf_0 : decode b_B_lengthOf 0 = .ok (.aload_n 0, 1) := by decide +kernel
theorem d_B_lengthOf_1 : decode b_B_lengthOf 1 = .ok (.getfield 18, 3) := by decide +kernel
theorem d_B_lengthOf_4 : decode b_B_lengthOf 4 = .ok (.iload_n 1, 1) := by decide +kernel
theorem d_B_lengthOf_5 : decode b_B_lengthOf 5 = .ok (.iaload, 1) := by decide +kernel
theorem d_B_lengthOf_6 : decode b_B_lengthOf 6 = .ok (.ireturn, 1) := by decide +kernel
theorem d_B_totalLength_0 : decode b_B_totalLength 0 = .ok (.iconst 0, 1) := by decide +kernel
theorem d_B_totalLength_1 : decode b_B_totalLength 1 = .ok (.istore_n 2, 1) := by decide +kernel
theorem d_B_totalLength_2 : decode b_B_totalLength 2 = .ok (.iconst 0, 1) := by decide +kernel
theorem d_B_totalLength_3 : decode b_B_totalLength 3 = .ok (.istore_n 3, 1) := by decide +kernel
theorem d_B_totalLength_4 : decode b_B_totalLength 4 = .ok (.iload_n 3, 1) := by decide +kernel
theorem d_B_totalLength_5 : decode b_B_totalLength 5 = .ok (.aload_n 0, 1) := by decide +kernel
theorem d_B_totalLength_6 : decode b_B_totalLength 6 = .ok (.getfield 24, 3) := by decide +kernel
theorem d_B_totalLength_9 : decode b_B_totalLength 9 = .ok (.if_icmp .ge 27, 3) := by decide +kernel
theorem d_B_totalLength_12 : decode b_B_totalLength 12 = .ok (.iload_n 1, 1) := by decide +kernel
theorem d_B_totalLength_13 : decode b_B_totalLength 13 = .ok (.iload_n 3, 1) := by decide +kernel
theorem d_B_totalLength_14 : decode b_B_totalLength 14 = .ok (.ishr, 1) := by decide +kernel
theorem d_B_totalLength_15 : decode b_B_totalLength 15 = .ok (.iconst 1, 1) := by decide +kernel
theorem d_B_totalLength_16 : decode b_B_totalLength 16 = .ok (.iand, 1) := by decide +kernel
theorem d_B_totalLength_17 : decode b_B_totalLength 17 = .ok (.iconst 1, 1) := by decide +kernel
theorem d_B_totalLength_18 : decode b_B_totalLength 18 = .ok (.if_icmp .ne 12, 3) := by decide +kernel
theorem d_B_totalLength_21 : decode b_B_totalLength 21 = .ok (.iload_n 2, 1) := by decide +kernel
theorem d_B_totalLength_22 : decode b_B_totalLength 22 = .ok (.aload_n 0, 1) := by decide +kernel
theorem d_B_totalLength_23 : decode b_B_totalLength 23 = .ok (.getfield 18, 3) := by decide +kernel
theorem d_B_totalLength_26 : decode b_B_totalLength 26 = .ok (.iload_n 3, 1) := by decide +kernel
theorem d_B_totalLength_27 : decode b_B_totalLength 27 = .ok (.iaload, 1) := by decide +kernel
theorem d_B_totalLength_28 : decode b_B_totalLength 28 = .ok (.iadd, 1) := by decide +kernel
theorem d_B_totalLength_29 : decode b_B_totalLength 29 = .ok (.istore_n 2, 1) := by decide +kernel
theorem d_B_totalLength_30 : decode b_B_totalLength 30 = .ok (.iinc 3 1, 3) := by decide +kernel
theorem d_B_totalLength_33 : decode b_B_totalLength 33 = .ok (.goto (-29), 3) := by decide +kernel
theorem d_B_totalLength_36 : decode b_B_totalLength 36 = .ok (.iload_n 2, 1) := by decide +kernel
theorem d_B_totalLength_37 : decode b_B_totalLength 37 = .ok (.ireturn, 1) := by decide +kernel
theorem d_B_add_0 : decode b_B_add 0 = .ok (.aload_n 0, 1) := by decide +kernel
theorem d_B_add_1 : decode b_B_add 1 = .ok (.getfield 24, 3) := by decide +kernel
theorem d_B_add_4 : decode b_B_add 4 = .ok (.istore 5, 2) := by decide +kernel
theorem d_B_add_6 : decode b_B_add 6 = .ok (.aload_n 0, 1) := by decide +kernel
theorem d_B_add_7 : decode b_B_add 7 = .ok (.getfield 9, 3) := by decide +kernel
theorem d_B_add_10 : decode b_B_add 10 = .ok (.iload 5, 2) := by decide +kernel
theorem d_B_add_12 : decode b_B_add 12 = .ok (.iload_n 1, 1) := by decide +kernel
theorem d_B_add_13 : decode b_B_add 13 = .ok (.iastore, 1) := by decide +kernel
theorem d_B_add_14 : decode b_B_add 14 = .ok (.aload_n 0, 1) := by decide +kernel
theorem d_B_add_15 : decode b_B_add 15 = .ok (.getfield 15, 3) := by decide +kernel
theorem d_B_add_18 : decode b_B_add 18 = .ok (.iload 5, 2) := by decide +kernel
theorem d_B_add_20 : decode b_B_add 20 = .ok (.iload_n 2, 1) := by decide +kernel
theorem d_B_add_21 : decode b_B_add 21 = .ok (.iastore, 1) := by decide +kernel
theorem d_B_add_22 : decode b_B_add 22 = .ok (.aload_n 0, 1) := by decide +kernel
theorem d_B_add_23 : decode b_B_add 23 = .ok (.getfield 18, 3) := by decide +kernel
theorem d_B_add_26 : decode b_B_add 26 = .ok (.iload 5, 2) := by decide +kernel
theorem d_B_add_28 : decode b_B_add 28 = .ok (.iload_n 3, 1) := by decide +kernel
theorem d_B_add_29 : decode b_B_add 29 = .ok (.iastore, 1) := by decide +kernel
theorem d_B_add_30 : decode b_B_add 30 = .ok (.aload_n 0, 1) := by decide +kernel
theorem d_B_add_31 : decode b_B_add 31 = .ok (.getfield 21, 3) := by decide +kernel
theorem d_B_add_34 : decode b_B_add 34 = .ok (.iload 5, 2) := by decide +kernel
theorem d_B_add_36 : decode b_B_add 36 = .ok (.iload 4, 2) := by decide +kernel
theorem d_B_add_38 : decode b_B_add 38 = .ok (.iastore, 1) := by decide +kernel
theorem d_B_add_39 : decode b_B_add 39 = .ok (.aload_n 0, 1) := by decide +kernel
theorem d_B_add_40 : decode b_B_add 40 = .ok (.dup, 1) := by decide +kernel
theorem d_B_add_41 : decode b_B_add 41 = .ok (.getfield 24, 3) := by decide +kernel
theorem d_B_add_44 : decode b_B_add 44 = .ok (.iconst 1, 1) := by decide +kernel
theorem d_B_add_45 : decode b_B_add 45 = .ok (.iadd, 1) := by decide +kernel
theorem d_B_add_46 : decode b_B_add 46 = .ok (.putfield 24, 3) := by decide +kernel
theorem d_B_add_49 : decode b_B_add 49 = .ok (.iload 5, 2) := by decide +kernel
theorem d_B_add_51 : decode b_B_add 51 = .ok (.ireturn, 1) := by decide +kernel
def w_B_size : List Cond := .code y_B_size b_B_size 1 (some .int) :: W0
theorem q_B_size : y_B_size.cls = R_B ∧ y_B_size.cls ≠ "java/lang/invoke/MethodHandle" ∧ y_B_size.cls ≠ "java/lang/invoke/VarHandle" ∧ (parseMethodDescriptor y_B_size.desc).map (fun d => d.parameters.length) = some 0 := by decide +kernel
def m_B_size (b_count : Int32) : Option Int32 :=
  some b_count
set_option maxHeartbeats 4000000 in
set_option maxRecDepth 100000 in
theorem c_B_size (l : Launch) (dC : Nat → ClassId) (dI : Nat → Nat → Nat) (cI : ClassId) (bq bq1 bq2 bq3 bq4 : Nat) (b_thicks : Nat → Int32) (b_wides : Nat → Int32) (b_lengths : Nat → Int32) (b_grades : Nat → Int32) (b_count : Int32)  (N : Nat) (res : Int32) (hm : m_B_size b_count = some res) : Met l y_B_size w_B_size ({ frames := 0, cells := 0, slots := 0, locals := 0 } : Room) (va_Pc [.ref bq] (fun U => va_P (dC, dI) classes [(bq, .inr (0, [.ref bq1, .ref bq2, .ref bq3, .ref bq4, .int b_count])), (bq1, .inl (cI, 10, .inl b_thicks)), (bq2, .inl (cI, 10, .inl b_wides)), (bq3, .inl (cI, 10, .inl b_lengths)), (bq4, .inl (cI, 10, .inl b_grades))] U.heap ∧ va_K (dC, dI) classes [(cI, .int)] U ∧ nw U)) (vp_Si (fun x => res = x)) 0 0 (fun _ => False) := by
  unfold m_B_size at hm
  refine Met.ofW (cc := b_B_size) (maxL := 1) (ret := (some .int)) (by decide) rfl ?_
  intro p e s m args below meth c s₁ B hml hv
  obtain ⟨rfl, hP, hK, hN⟩ := hv
  have hx := B.exec
  have hb := B.bytes
  have hr := B.returns
  have hts := atoms_spec (ws := w_B_size) B.pre
  have hown : s.vm.findClass R_B = some m.cls := findClass_of_methodNamed B.named
  have hlocks := B.notSynchronized
  have hk0 := hts (.fieldLink R_B 24 "SurplusMatch$Boards" "count" "I") (List.mem_cons_of_mem _ (w0 62 rfl))
  have hk1 : ∀ w ∈ w_B, w ∈ w_B_size := fun w h => List.mem_cons_of_mem _ (i_B w h)
  have hl := lv_entry ([.ref bq]) (n := 1) (Nat.le_of_ble_eq_true rfl)
  rw [lg_entry_eq]
  generalize (lg_sl ([.ref bq]) ++ List.replicate (1 - (lg_sl ([.ref bq])).length) Slot.unset).toArray = ls at hl ⊢
  have hl : lv_has ls 1 [(0, .ref bq)] := hl
  refine lv_aload_n hx hb d_B_size_0 rfl (lv_at hl 0 rfl) ?_
  refine va_get (D := (dC, dI)) (ci := 0) (v := .int b_count) (C := R_B) (T := F_B) (N := 5) hx hb hts hk1 hown hK hP 0 rfl rfl 4 (by decide) hk0 (fun _ h9 => h9) rfl d_B_size_1 ?_
  cases hm
  exact W.iret hx hb hr (fun t ht hW => ⟨_, rfl, rfl, ht⟩) (fun _ h => nomatch h) d_B_size_4

def w_B_has : List Cond := .code y_B_has b_B_has 2 (some .boolean) :: W0
theorem q_B_has : y_B_has.cls = R_B ∧ y_B_has.cls ≠ "java/lang/invoke/MethodHandle" ∧ y_B_has.cls ≠ "java/lang/invoke/VarHandle" ∧ (parseMethodDescriptor y_B_has.desc).map (fun d => d.parameters.length) = some 1 := by decide +kernel
def m_B_has (b_count : Int32) (x1 : Int32) : Option Int32 :=
  (if x1 < 0 then
  some 0
 else
  (if b_count ≤ x1 then
    some 0
   else
    some 1))
set_option maxHeartbeats 4000000 in
set_option maxRecDepth 100000 in
theorem c_B_has (l : Launch) (dC : Nat → ClassId) (dI : Nat → Nat → Nat) (cI : ClassId) (bq bq1 bq2 bq3 bq4 : Nat) (b_thicks : Nat → Int32) (b_wides : Nat → Int32) (b_lengths : Nat → Int32) (b_grades : Nat → Int32) (b_count : Int32) (x1 : Int32) (N : Nat) (res : Int32) (hm : m_B_has b_count x1 = some res) : Met l y_B_has w_B_has ({ frames := 0, cells := 0, slots := 0, locals := 0 } : Room) (va_Pc [.ref bq, .int x1] (fun U => va_P (dC, dI) classes [(bq, .inr (0, [.ref bq1, .ref bq2, .ref bq3, .ref bq4, .int b_count])), (bq1, .inl (cI, 10, .inl b_thicks)), (bq2, .inl (cI, 10, .inl b_wides)), (bq3, .inl (cI, 10, .inl b_lengths)), (bq4, .inl (cI, 10, .inl b_grades))] U.heap ∧ va_K (dC, dI) classes [(cI, .int)] U ∧ nw U)) (vp_Si (fun x => res = x)) 0 0 (fun _ => False) := by
  unfold m_B_has at hm
  refine Met.ofW (cc := b_B_has) (maxL := 2) (ret := (some .boolean)) (by decide) rfl ?_
  intro p e s m args below meth c s₁ B hml hv
  obtain ⟨rfl, hP, hK, hN⟩ := hv
  have hx := B.exec
  have hb := B.bytes
  have hr := B.returns
  have hts := atoms_spec (ws := w_B_has) B.pre
  have hown : s.vm.findClass R_B = some m.cls := findClass_of_methodNamed B.named
  have hlocks := B.notSynchronized
  have hk0 := hts (.fieldLink R_B 24 "SurplusMatch$Boards" "count" "I") (List.mem_cons_of_mem _ (w0 62 rfl))
  have hk1 : ∀ w ∈ w_B, w ∈ w_B_has := fun w h => List.mem_cons_of_mem _ (i_B w h)
  have hl := lv_entry ([.ref bq, .int x1]) (n := 2) (Nat.le_of_ble_eq_true rfl)
  rw [lg_entry_eq]
  generalize (lg_sl ([.ref bq, .int x1]) ++ List.replicate (2 - (lg_sl ([.ref bq, .int x1])).length) Slot.unset).toArray = ls at hl ⊢
  have hl : lv_has ls 2 [(0, .ref bq), (1, .int x1)] := hl
  refine lv_iload_n hx hb d_B_has_0 rfl (lv_at hl 1 rfl) ?_
  refine lv_if_lt (tgt := 16) hx hb d_B_has_1 (by decide) (fun c9 => ?_) (fun c9 => ?_)
  · replace hm := if_t c9 hm
    refine lv_iconst (v := 0) hx hb d_B_has_16 (by decide) ?_
    cases hm
    exact W.zret hx hb hr (by decide) (fun t ht hW => ⟨_, rfl, rfl, ht⟩) (fun _ h => nomatch h) d_B_has_17
  · replace hm := if_f c9 hm
    refine lv_iload_n hx hb d_B_has_4 rfl (lv_at hl 1 rfl) ?_
    refine lv_aload_n hx hb d_B_has_5 rfl (lv_at hl 0 rfl) ?_
    refine va_get (D := (dC, dI)) (ci := 0) (v := .int b_count) (C := R_B) (T := F_B) (N := 5) hx hb hts hk1 hown hK hP 0 rfl rfl 4 (by decide) hk0 (fun _ h9 => h9) rfl d_B_has_6 ?_
    refine lv_icmp_ge (tgt := 16) hx hb d_B_has_9 (by decide) (fun c9 => ?_) (fun c9 => ?_)
    · replace hm := if_t c9 hm
      refine lv_iconst (v := 0) hx hb d_B_has_16 (by decide) ?_
      cases hm
      exact W.zret hx hb hr (by decide) (fun t ht hW => ⟨_, rfl, rfl, ht⟩) (fun _ h => nomatch h) d_B_has_17
    · replace hm := if_f c9 hm
      refine lv_iconst (v := 1) hx hb d_B_has_12 (by decide) ?_
      refine lv_goto (tgt := 17) hx hb d_B_has_13 (by decide) ?_
      cases hm
      exact W.zret hx hb hr (by decide) (fun t ht hW => ⟨_, rfl, rfl, ht⟩) (fun _ h => nomatch h) d_B_has_17

def w_B_isFull : List Cond := .code y_B_isFull b_B_isFull 1 (some .boolean) :: W0
theorem q_B_isFull : y_B_isFull.cls = R_B ∧ y_B_isFull.cls ≠ "java/lang/invoke/MethodHandle" ∧ y_B_isFull.cls ≠ "java/lang/invoke/VarHandle" ∧ (parseMethodDescriptor y_B_isFull.desc).map (fun d => d.parameters.length) = some 0 := by decide +kernel
def m_B_isFull (b_count : Int32) : Option Int32 :=
  (if b_count < 10 then
  some 0
 else
  some 1)
set_option maxHeartbeats 4000000 in
set_option maxRecDepth 100000 in
theorem c_B_isFull (l : Launch) (dC : Nat → ClassId) (dI : Nat → Nat → Nat) (cI : ClassId) (bq bq1 bq2 bq3 bq4 : Nat) (b_thicks : Nat → Int32) (b_wides : Nat → Int32) (b_lengths : Nat → Int32) (b_grades : Nat → Int32) (b_count : Int32)  (N : Nat) (res : Int32) (hm : m_B_isFull b_count = some res) : Met l y_B_isFull w_B_isFull ({ frames := 0, cells := 0, slots := 0, locals := 0 } : Room) (va_Pc [.ref bq] (fun U => va_P (dC, dI) classes [(bq, .inr (0, [.ref bq1, .ref bq2, .ref bq3, .ref bq4, .int b_count])), (bq1, .inl (cI, 10, .inl b_thicks)), (bq2, .inl (cI, 10, .inl b_wides)), (bq3, .inl (cI, 10, .inl b_lengths)), (bq4, .inl (cI, 10, .inl b_grades))] U.heap ∧ va_K (dC, dI) classes [(cI, .int)] U ∧ nw U)) (vp_Si (fun x => res = x)) 0 0 (fun _ => False) := by
  unfold m_B_isFull at hm
  refine Met.ofW (cc := b_B_isFull) (maxL := 1) (ret := (some .boolean)) (by decide) rfl ?_
  intro p e s m args below meth c s₁ B hml hv
  obtain ⟨rfl, hP, hK, hN⟩ := hv
  have hx := B.exec
  have hb := B.bytes
  have hr := B.returns
  have hts := atoms_spec (ws := w_B_isFull) B.pre
  have hown : s.vm.findClass R_B = some m.cls := findClass_of_methodNamed B.named
  have hlocks := B.notSynchronized
  have hk0 := hts (.fieldLink R_B 24 "SurplusMatch$Boards" "count" "I") (List.mem_cons_of_mem _ (w0 62 rfl))
  have hk1 : ∀ w ∈ w_B, w ∈ w_B_isFull := fun w h => List.mem_cons_of_mem _ (i_B w h)
  have hl := lv_entry ([.ref bq]) (n := 1) (Nat.le_of_ble_eq_true rfl)
  rw [lg_entry_eq]
  generalize (lg_sl ([.ref bq]) ++ List.replicate (1 - (lg_sl ([.ref bq])).length) Slot.unset).toArray = ls at hl ⊢
  have hl : lv_has ls 1 [(0, .ref bq)] := hl
  refine lv_aload_n hx hb d_B_isFull_0 rfl (lv_at hl 0 rfl) ?_
  refine va_get (D := (dC, dI)) (ci := 0) (v := .int b_count) (C := R_B) (T := F_B) (N := 5) hx hb hts hk1 hown hK hP 0 rfl rfl 4 (by decide) hk0 (fun _ h9 => h9) rfl d_B_isFull_1 ?_
  refine lv_bipush (v := 10) hx hb d_B_isFull_4 (by decide) ?_
  refine lv_icmp_lt (tgt := 13) hx hb d_B_isFull_6 (by decide) (fun c9 => ?_) (fun c9 => ?_)
  · replace hm := if_t c9 hm
    refine lv_iconst (v := 0) hx hb d_B_isFull_13 (by decide) ?_
    cases hm
    exact W.zret hx hb hr (by decide) (fun t ht hW => ⟨_, rfl, rfl, ht⟩) (fun _ h => nomatch h) d_B_isFull_14
  · replace hm := if_f c9 hm
    refine lv_iconst (v := 1) hx hb d_B_isFull_9 (by decide) ?_
    refine lv_goto (tgt := 14) hx hb d_B_isFull_10 (by decide) ?_
    cases hm
    exact W.zret hx hb hr (by decide) (fun t ht hW => ⟨_, rfl, rfl, ht⟩) (fun _ h => nomatch h) d_B_isFull_14

def w_B_suits : List Cond := .code y_B_suits b_B_suits 4 (some .boolean) :: W0
theorem q_B_suits : y_B_suits.cls = R_B ∧ y_B_suits.cls ≠ "java/lang/invoke/MethodHandle" ∧ y_B_suits.cls ≠ "java/lang/invoke/VarHandle" ∧ (parseMethodDescriptor y_B_suits.desc).map (fun d => d.parameters.length) = some 3 := by decide +kernel
def m_B_suits (b_thicks : Nat → Int32) (b_wides : Nat → Int32) (b_lengths : Nat → Int32) (b_grades : Nat → Int32) (d_thicks : Nat → Int32) (d_wides : Nat → Int32) (d_lengths : Nat → Int32) (d_grades : Nat → Int32) (x1 : Int32) (x3 : Int32) : Option Int32 :=
  (if x1 < 0 ∨ 10 ≤ x1.toNatClampNeg then none else
(if x3 < 0 ∨ 10 ≤ x3.toNatClampNeg then none else
(if (b_grades x1.toNatClampNeg) = (d_grades x3.toNatClampNeg) then
  (if x1 < 0 ∨ 10 ≤ x1.toNatClampNeg then none else
  (if x3 < 0 ∨ 10 ≤ x3.toNatClampNeg then none else
  (if (b_thicks x1.toNatClampNeg) = (d_thicks x3.toNatClampNeg) then
    (if x1 < 0 ∨ 10 ≤ x1.toNatClampNeg then none else
    (if x3 < 0 ∨ 10 ≤ x3.toNatClampNeg then none else
    (if (b_wides x1.toNatClampNeg) < (d_wides x3.toNatClampNeg) then
      some 0
     else
      (if x1 < 0 ∨ 10 ≤ x1.toNatClampNeg then none else
      (if x3 < 0 ∨ 10 ≤ x3.toNatClampNeg then none else
      (if (b_lengths x1.toNatClampNeg) < (d_lengths x3.toNatClampNeg) then
        some 0
       else
        some 1))))))
   else
    some 0)))
 else
  some 0)))
set_option maxHeartbeats 4000000 in
set_option maxRecDepth 100000 in
theorem c_B_suits (l : Launch) (dC : Nat → ClassId) (dI : Nat → Nat → Nat) (cI : ClassId) (bq bq1 bq2 bq3 bq4 dq dq1 dq2 dq3 dq4 : Nat) (b_thicks : Nat → Int32) (b_wides : Nat → Int32) (b_lengths : Nat → Int32) (b_grades : Nat → Int32) (b_count : Int32) (d_thicks : Nat → Int32) (d_wides : Nat → Int32) (d_lengths : Nat → Int32) (d_grades : Nat → Int32) (d_count : Int32) (x1 : Int32) (x3 : Int32) (N : Nat) (res : Int32) (hm : m_B_suits b_thicks b_wides b_lengths b_grades d_thicks d_wides d_lengths d_grades x1 x3 = some res) : Met l y_B_suits w_B_suits ({ frames := 0, cells := 0, slots := 0, locals := 0 } : Room) (va_Pc [.ref bq, .int x1, .ref dq, .int x3] (fun U => va_P (dC, dI) classes [(bq, .inr (0, [.ref bq1, .ref bq2, .ref bq3, .ref bq4, .int b_count])), (bq1, .inl (cI, 10, .inl b_thicks)), (bq2, .inl (cI, 10, .inl b_wides)), (bq3, .inl (cI, 10, .inl b_lengths)), (bq4, .inl (cI, 10, .inl b_grades)), (dq, .inr (0, [.ref dq1, .ref dq2, .ref dq3, .ref dq4, .int d_count])), (dq1, .inl (cI, 10, .inl d_thicks)), (dq2, .inl (cI, 10, .inl d_wides)), (dq3, .inl (cI, 10, .inl d_lengths)), (dq4, .inl (cI, 10, .inl d_grades))] U.heap ∧ va_K (dC, dI) classes [(cI, .int)] U ∧ nw U)) (vp_Si (fun x => res = x)) 0 0 (fun _ => False) := by
  unfold m_B_suits at hm
  refine Met.ofW (cc := b_B_suits) (maxL := 4) (ret := (some .boolean)) (by decide) rfl ?_
  intro p e s m args below meth c s₁ B hml hv
  obtain ⟨rfl, hP, hK, hN⟩ := hv
  have hx := B.exec
  have hb := B.bytes
  have hr := B.returns
  have hts := atoms_spec (ws := w_B_suits) B.pre
  have hown : s.vm.findClass R_B = some m.cls := findClass_of_methodNamed B.named
  have hlocks := B.notSynchronized
  have hk0 := hts (.fieldLink R_B 21 "SurplusMatch$Boards" "grades" "[I") (List.mem_cons_of_mem _ (w0 61 rfl))
  have hk1 : ∀ w ∈ w_B, w ∈ w_B_suits := fun w h => List.mem_cons_of_mem _ (i_B w h)
  have hk2 := hts (.fieldLink R_B 9 "SurplusMatch$Boards" "thicks" "[I") (List.mem_cons_of_mem _ (w0 58 rfl))
  have hk3 := hts (.fieldLink R_B 15 "SurplusMatch$Boards" "wides" "[I") (List.mem_cons_of_mem _ (w0 59 rfl))
  have hk4 := hts (.fieldLink R_B 18 "SurplusMatch$Boards" "lengths" "[I") (List.mem_cons_of_mem _ (w0 60 rfl))
  have hl := lv_entry ([.ref bq, .int x1, .ref dq, .int x3]) (n := 4) (Nat.le_of_ble_eq_true rfl)
  rw [lg_entry_eq]
  generalize (lg_sl ([.ref bq, .int x1, .ref dq, .int x3]) ++ List.replicate (4 - (lg_sl ([.ref bq, .int x1, .ref dq, .int x3])).length) Slot.unset).toArray = ls at hl ⊢
  have hl : lv_has ls 4 [(0, .ref bq), (1, .int x1), (2, .ref dq), (3, .int x3)] := hl
  refine lv_aload_n hx hb d_B_suits_0 rfl (lv_at hl 0 rfl) ?_
  refine va_get (D := (dC, dI)) (ci := 0) (v := .ref bq4) (C := R_B) (T := F_B) (N := 5) hx hb hts hk1 hown hK hP 0 rfl rfl 3 (by decide) hk0 (fun _ h9 => h9) rfl d_B_suits_1 ?_
  refine lv_iload_n hx hb d_B_suits_4 rfl (lv_at hl 1 rfl) ?_
  obtain ⟨h9, hm⟩ := gd hm
  refine va_iald hx hb hK hP 4 0 rfl rfl h9 d_B_suits_5 ?_
  refine lv_aload_n hx hb d_B_suits_6 rfl (lv_at hl 2 rfl) ?_
  refine va_get (D := (dC, dI)) (ci := 0) (v := .ref dq4) (C := R_B) (T := F_B) (N := 5) hx hb hts hk1 hown hK hP 5 rfl rfl 3 (by decide) hk0 (fun _ h9 => h9) rfl d_B_suits_7 ?_
  refine lv_iload_n hx hb d_B_suits_10 rfl (lv_at hl 3 rfl) ?_
  obtain ⟨h9, hm⟩ := gd hm
  refine va_iald hx hb hK hP 9 0 rfl rfl h9 d_B_suits_11 ?_
  refine lv_icmp_ne (tgt := 64) hx hb d_B_suits_12 (by decide) (fun c9 => ?_) (fun c9 => ?_)
  · replace hm := if_f c9 hm
    refine lv_iconst (v := 0) hx hb d_B_suits_64 (by decide) ?_
    cases hm
    exact W.zret hx hb hr (by decide) (fun t ht hW => ⟨_, rfl, rfl, ht⟩) (fun _ h => nomatch h) d_B_suits_65
  · replace hm := if_t c9 hm
    refine lv_aload_n hx hb d_B_suits_15 rfl (lv_at hl 0 rfl) ?_
    refine va_get (D := (dC, dI)) (ci := 0) (v := .ref bq1) (C := R_B) (T := F_B) (N := 5) hx hb hts hk1 hown hK hP 0 rfl rfl 0 (by decide) hk2 (fun _ h9 => h9) rfl d_B_suits_16 ?_
    refine lv_iload_n hx hb d_B_suits_19 rfl (lv_at hl 1 rfl) ?_
    obtain ⟨h9, hm⟩ := gd hm
    refine va_iald hx hb hK hP 1 0 rfl rfl h9 d_B_suits_20 ?_
    refine lv_aload_n hx hb d_B_suits_21 rfl (lv_at hl 2 rfl) ?_
    refine va_get (D := (dC, dI)) (ci := 0) (v := .ref dq1) (C := R_B) (T := F_B) (N := 5) hx hb hts hk1 hown hK hP 5 rfl rfl 0 (by decide) hk2 (fun _ h9 => h9) rfl d_B_suits_22 ?_
    refine lv_iload_n hx hb d_B_suits_25 rfl (lv_at hl 3 rfl) ?_
    obtain ⟨h9, hm⟩ := gd hm
    refine va_iald hx hb hK hP 6 0 rfl rfl h9 d_B_suits_26 ?_
    refine lv_icmp_ne (tgt := 64) hx hb d_B_suits_27 (by decide) (fun c9 => ?_) (fun c9 => ?_)
    · replace hm := if_f c9 hm
      refine lv_iconst (v := 0) hx hb d_B_suits_64 (by decide) ?_
      cases hm
      exact W.zret hx hb hr (by decide) (fun t ht hW => ⟨_, rfl, rfl, ht⟩) (fun _ h => nomatch h) d_B_suits_65
    · replace hm := if_t c9 hm
      refine lv_aload_n hx hb d_B_suits_30 rfl (lv_at hl 0 rfl) ?_
      refine va_get (D := (dC, dI)) (ci := 0) (v := .ref bq2) (C := R_B) (T := F_B) (N := 5) hx hb hts hk1 hown hK hP 0 rfl rfl 1 (by decide) hk3 (fun _ h9 => h9) rfl d_B_suits_31 ?_
      refine lv_iload_n hx hb d_B_suits_34 rfl (lv_at hl 1 rfl) ?_
      obtain ⟨h9, hm⟩ := gd hm
      refine va_iald hx hb hK hP 2 0 rfl rfl h9 d_B_suits_35 ?_
      refine lv_aload_n hx hb d_B_suits_36 rfl (lv_at hl 2 rfl) ?_
      refine va_get (D := (dC, dI)) (ci := 0) (v := .ref dq2) (C := R_B) (T := F_B) (N := 5) hx hb hts hk1 hown hK hP 5 rfl rfl 1 (by decide) hk3 (fun _ h9 => h9) rfl d_B_suits_37 ?_
      refine lv_iload_n hx hb d_B_suits_40 rfl (lv_at hl 3 rfl) ?_
      obtain ⟨h9, hm⟩ := gd hm
      refine va_iald hx hb hK hP 7 0 rfl rfl h9 d_B_suits_41 ?_
      refine lv_icmp_lt (tgt := 64) hx hb d_B_suits_42 (by decide) (fun c9 => ?_) (fun c9 => ?_)
      · replace hm := if_t c9 hm
        refine lv_iconst (v := 0) hx hb d_B_suits_64 (by decide) ?_
        cases hm
        exact W.zret hx hb hr (by decide) (fun t ht hW => ⟨_, rfl, rfl, ht⟩) (fun _ h => nomatch h) d_B_suits_65
      · replace hm := if_f c9 hm
        refine lv_aload_n hx hb d_B_suits_45 rfl (lv_at hl 0 rfl) ?_
        refine va_get (D := (dC, dI)) (ci := 0) (v := .ref bq3) (C := R_B) (T := F_B) (N := 5) hx hb hts hk1 hown hK hP 0 rfl rfl 2 (by decide) hk4 (fun _ h9 => h9) rfl d_B_suits_46 ?_
        refine lv_iload_n hx hb d_B_suits_49 rfl (lv_at hl 1 rfl) ?_
        obtain ⟨h9, hm⟩ := gd hm
        refine va_iald hx hb hK hP 3 0 rfl rfl h9 d_B_suits_50 ?_
        refine lv_aload_n hx hb d_B_suits_51 rfl (lv_at hl 2 rfl) ?_
        refine va_get (D := (dC, dI)) (ci := 0) (v := .ref dq3) (C := R_B) (T := F_B) (N := 5) hx hb hts hk1 hown hK hP 5 rfl rfl 2 (by decide) hk4 (fun _ h9 => h9) rfl d_B_suits_52 ?_
        refine lv_iload_n hx hb d_B_suits_55 rfl (lv_at hl 3 rfl) ?_
        obtain ⟨h9, hm⟩ := gd hm
        refine va_iald hx hb hK hP 8 0 rfl rfl h9 d_B_suits_56 ?_
        refine lv_icmp_lt (tgt := 64) hx hb d_B_suits_57 (by decide) (fun c9 => ?_) (fun c9 => ?_)
        · replace hm := if_t c9 hm
          refine lv_iconst (v := 0) hx hb d_B_suits_64 (by decide) ?_
          cases hm
          exact W.zret hx hb hr (by decide) (fun t ht hW => ⟨_, rfl, rfl, ht⟩) (fun _ h => nomatch h) d_B_suits_65
        · replace hm := if_f c9 hm
          refine lv_iconst (v := 1) hx hb d_B_suits_60 (by decide) ?_
          refine lv_goto (tgt := 65) hx hb d_B_suits_61 (by decide) ?_
          cases hm
          exact W.zret hx hb hr (by decide) (fun t ht hW => ⟨_, rfl, rfl, ht⟩) (fun _ h => nomatch h) d_B_suits_65

def w_B_sidesToCut : List Cond := .code y_B_sidesToCut b_B_sidesToCut 6 (some .int) :: W0
theorem q_B_sidesToCut : y_B_sidesToCut.cls = R_B ∧ y_B_sidesToCut.cls ≠ "java/lang/invoke/MethodHandle" ∧ y_B_sidesToCut.cls ≠ "java/lang/invoke/VarHandle" ∧ (parseMethodDescriptor y_B_sidesToCut.desc).map (fun d => d.parameters.length) = some 3 := by decide +kernel
def m_B_sidesToCut (b_wides : Nat → Int32) (b_lengths : Nat → Int32) (d_wides : Nat → Int32) (d_lengths : Nat → Int32) (x1 : Int32) (x3 : Int32) : Option Int32 :=
  (if x1 < 0 ∨ 10 ≤ x1.toNatClampNeg then none else
(if x3 < 0 ∨ 10 ≤ x3.toNatClampNeg then none else
(if (b_wides x1.toNatClampNeg) = (d_wides x3.toNatClampNeg) then
  (if x1 < 0 ∨ 10 ≤ x1.toNatClampNeg then none else
  (if x3 < 0 ∨ 10 ≤ x3.toNatClampNeg then none else
  (if (b_lengths x1.toNatClampNeg) = (d_lengths x3.toNatClampNeg) then
    some (0 + 0)
   else
    some (0 + 1))))
 else
  (if x1 < 0 ∨ 10 ≤ x1.toNatClampNeg then none else
  (if x3 < 0 ∨ 10 ≤ x3.toNatClampNeg then none else
  (if (b_lengths x1.toNatClampNeg) = (d_lengths x3.toNatClampNeg) then
    some (1 + 0)
   else
    some (1 + 1)))))))
set_option maxHeartbeats 4000000 in
set_option maxRecDepth 100000 in
theorem c_B_sidesToCut (l : Launch) (dC : Nat → ClassId) (dI : Nat → Nat → Nat) (cI : ClassId) (bq bq1 bq2 bq3 bq4 dq dq1 dq2 dq3 dq4 : Nat) (b_thicks : Nat → Int32) (b_wides : Nat → Int32) (b_lengths : Nat → Int32) (b_grades : Nat → Int32) (b_count : Int32) (d_thicks : Nat → Int32) (d_wides : Nat → Int32) (d_lengths : Nat → Int32) (d_grades : Nat → Int32) (d_count : Int32) (x1 : Int32) (x3 : Int32) (N : Nat) (res : Int32) (hm : m_B_sidesToCut b_wides b_lengths d_wides d_lengths x1 x3 = some res) : Met l y_B_sidesToCut w_B_sidesToCut ({ frames := 0, cells := 0, slots := 0, locals := 0 } : Room) (va_Pc [.ref bq, .int x1, .ref dq, .int x3] (fun U => va_P (dC, dI) classes [(bq, .inr (0, [.ref bq1, .ref bq2, .ref bq3, .ref bq4, .int b_count])), (bq1, .inl (cI, 10, .inl b_thicks)), (bq2, .inl (cI, 10, .inl b_wides)), (bq3, .inl (cI, 10, .inl b_lengths)), (bq4, .inl (cI, 10, .inl b_grades)), (dq, .inr (0, [.ref dq1, .ref dq2, .ref dq3, .ref dq4, .int d_count])), (dq1, .inl (cI, 10, .inl d_thicks)), (dq2, .inl (cI, 10, .inl d_wides)), (dq3, .inl (cI, 10, .inl d_lengths)), (dq4, .inl (cI, 10, .inl d_grades))] U.heap ∧ va_K (dC, dI) classes [(cI, .int)] U ∧ nw U)) (vp_Si (fun x => res = x)) 0 0 (fun _ => False) := by
  unfold m_B_sidesToCut at hm
  refine Met.ofW (cc := b_B_sidesToCut) (maxL := 6) (ret := (some .int)) (by decide) rfl ?_
  intro p e s m args below meth c s₁ B hml hv
  obtain ⟨rfl, hP, hK, hN⟩ := hv
  have hx := B.exec
  have hb := B.bytes
  have hr := B.returns
  have hts := atoms_spec (ws := w_B_sidesToCut) B.pre
  have hown : s.vm.findClass R_B = some m.cls := findClass_of_methodNamed B.named
  have hlocks := B.notSynchronized
  have hk0 := hts (.fieldLink R_B 15 "SurplusMatch$Boards" "wides" "[I") (List.mem_cons_of_mem _ (w0 59 rfl))
  have hk1 : ∀ w ∈ w_B, w ∈ w_B_sidesToCut := fun w h => List.mem_cons_of_mem _ (i_B w h)
  have hk2 := hts (.fieldLink R_B 18 "SurplusMatch$Boards" "lengths" "[I") (List.mem_cons_of_mem _ (w0 60 rfl))
  have hl := lv_entry ([.ref bq, .int x1, .ref dq, .int x3]) (n := 6) (Nat.le_of_ble_eq_true rfl)
  rw [lg_entry_eq]
  generalize (lg_sl ([.ref bq, .int x1, .ref dq, .int x3]) ++ List.replicate (6 - (lg_sl ([.ref bq, .int x1, .ref dq, .int x3])).length) Slot.unset).toArray = ls at hl ⊢
  have hl : lv_has ls 6 [(0, .ref bq), (1, .int x1), (2, .ref dq), (3, .int x3)] := hl
  refine lv_aload_n hx hb d_B_sidesToCut_0 rfl (lv_at hl 0 rfl) ?_
  refine va_get (D := (dC, dI)) (ci := 0) (v := .ref bq2) (C := R_B) (T := F_B) (N := 5) hx hb hts hk1 hown hK hP 0 rfl rfl 1 (by decide) hk0 (fun _ h9 => h9) rfl d_B_sidesToCut_1 ?_
  refine lv_iload_n hx hb d_B_sidesToCut_4 rfl (lv_at hl 1 rfl) ?_
  obtain ⟨h9, hm⟩ := gd hm
  refine va_iald hx hb hK hP 2 0 rfl rfl h9 d_B_sidesToCut_5 ?_
  refine lv_aload_n hx hb d_B_sidesToCut_6 rfl (lv_at hl 2 rfl) ?_
  refine va_get (D := (dC, dI)) (ci := 0) (v := .ref dq2) (C := R_B) (T := F_B) (N := 5) hx hb hts hk1 hown hK hP 5 rfl rfl 1 (by decide) hk0 (fun _ h9 => h9) rfl d_B_sidesToCut_7 ?_
  refine lv_iload_n hx hb d_B_sidesToCut_10 rfl (lv_at hl 3 rfl) ?_
  obtain ⟨h9, hm⟩ := gd hm
  refine va_iald hx hb hK hP 7 0 rfl rfl h9 d_B_sidesToCut_11 ?_
  refine lv_icmp_ne (tgt := 19) hx hb d_B_sidesToCut_12 (by decide) (fun c9 => ?_) (fun c9 => ?_)
  · replace hm := if_f c9 hm
    refine lv_iconst (v := 1) hx hb d_B_sidesToCut_19 (by decide) ?_
    refine lv_istore (lv' := [(4, .int 1), (0, .ref bq), (1, .int x1), (2, .ref dq), (3, .int x3)]) hx hb d_B_sidesToCut_20 hl (by decide) rfl (fun ls hl => ?_)
    refine lv_aload_n hx hb d_B_sidesToCut_22 rfl (lv_at hl 1 rfl) ?_
    refine va_get (D := (dC, dI)) (ci := 0) (v := .ref bq3) (C := R_B) (T := F_B) (N := 5) hx hb hts hk1 hown hK hP 0 rfl rfl 2 (by decide) hk2 (fun _ h9 => h9) rfl d_B_sidesToCut_23 ?_
    refine lv_iload_n hx hb d_B_sidesToCut_26 rfl (lv_at hl 2 rfl) ?_
    obtain ⟨h9, hm⟩ := gd hm
    refine va_iald hx hb hK hP 3 0 rfl rfl h9 d_B_sidesToCut_27 ?_
    refine lv_aload_n hx hb d_B_sidesToCut_28 rfl (lv_at hl 3 rfl) ?_
    refine va_get (D := (dC, dI)) (ci := 0) (v := .ref dq3) (C := R_B) (T := F_B) (N := 5) hx hb hts hk1 hown hK hP 5 rfl rfl 2 (by decide) hk2 (fun _ h9 => h9) rfl d_B_sidesToCut_29 ?_
    refine lv_iload_n hx hb d_B_sidesToCut_32 rfl (lv_at hl 4 rfl) ?_
    obtain ⟨h9, hm⟩ := gd hm
    refine va_iald hx hb hK hP 8 0 rfl rfl h9 d_B_sidesToCut_33 ?_
    refine lv_icmp_ne (tgt := 41) hx hb d_B_sidesToCut_34 (by decide) (fun c9 => ?_) (fun c9 => ?_)
    · replace hm := if_f c9 hm
      refine lv_iconst (v := 1) hx hb d_B_sidesToCut_41 (by decide) ?_
      refine lv_istore (lv' := [(5, .int 1), (4, .int 1), (0, .ref bq), (1, .int x1), (2, .ref dq), (3, .int x3)]) hx hb d_B_sidesToCut_42 hl (by decide) rfl (fun ls hl => ?_)
      refine lv_iload hx hb d_B_sidesToCut_44 (lv_at hl 1 rfl) ?_
      refine lv_iload hx hb d_B_sidesToCut_46 (lv_at hl 0 rfl) ?_
      refine lv_iadd hx hb d_B_sidesToCut_48 ?_
      cases hm
      exact W.iret hx hb hr (fun t ht hW => ⟨_, rfl, rfl, ht⟩) (fun _ h => nomatch h) d_B_sidesToCut_49
    · replace hm := if_t c9 hm
      refine lv_iconst (v := 0) hx hb d_B_sidesToCut_37 (by decide) ?_
      refine lv_goto (tgt := 42) hx hb d_B_sidesToCut_38 (by decide) ?_
      refine lv_istore (lv' := [(5, .int 0), (4, .int 1), (0, .ref bq), (1, .int x1), (2, .ref dq), (3, .int x3)]) hx hb d_B_sidesToCut_42 hl (by decide) rfl (fun ls hl => ?_)
      refine lv_iload hx hb d_B_sidesToCut_44 (lv_at hl 1 rfl) ?_
      refine lv_iload hx hb d_B_sidesToCut_46 (lv_at hl 0 rfl) ?_
      refine lv_iadd hx hb d_B_sidesToCut_48 ?_
      cases hm
      exact W.iret hx hb hr (fun t ht hW => ⟨_, rfl, rfl, ht⟩) (fun _ h => nomatch h) d_B_sidesToCut_49
  · replace hm := if_t c9 hm
    refine lv_iconst (v := 0) hx hb d_B_sidesToCut_15 (by decide) ?_
    refine lv_goto (tgt := 20) hx hb d_B_sidesToCut_16 (by decide) ?_
    refine lv_istore (lv' := [(4, .int 0), (0, .ref bq), (1, .int x1), (2, .ref dq), (3, .int x3)]) hx hb d_B_sidesToCut_20 hl (by decide) rfl (fun ls hl => ?_)
    refine lv_aload_n hx hb d_B_sidesToCut_22 rfl (lv_at hl 1 rfl) ?_
    refine va_get (D := (dC, dI)) (ci := 0) (v := .ref bq3) (C := R_B) (T := F_B) (N := 5) hx hb hts hk1 hown hK hP 0 rfl rfl 2 (by decide) hk2 (fun _ h9 => h9) rfl d_B_sidesToCut_23 ?_
    refine lv_iload_n hx hb d_B_sidesToCut_26 rfl (lv_at hl 2 rfl) ?_
    obtain ⟨h9, hm⟩ := gd hm
    refine va_iald hx hb hK hP 3 0 rfl rfl h9 d_B_sidesToCut_27 ?_
    refine lv_aload_n hx hb d_B_sidesToCut_28 rfl (lv_at hl 3 rfl) ?_
    refine va_get (D := (dC, dI)) (ci := 0) (v := .ref dq3) (C := R_B) (T := F_B) (N := 5) hx hb hts hk1 hown hK hP 5 rfl rfl 2 (by decide) hk2 (fun _ h9 => h9) rfl d_B_sidesToCut_29 ?_
    refine lv_iload_n hx hb d_B_sidesToCut_32 rfl (lv_at hl 4 rfl) ?_
    obtain ⟨h9, hm⟩ := gd hm
    refine va_iald hx hb hK hP 8 0 rfl rfl h9 d_B_sidesToCut_33 ?_
    refine lv_icmp_ne (tgt := 41) hx hb d_B_sidesToCut_34 (by decide) (fun c9 => ?_) (fun c9 => ?_)
    · replace hm := if_f c9 hm
      refine lv_iconst (v := 1) hx hb d_B_sidesToCut_41 (by decide) ?_
      refine lv_istore (lv' := [(5, .int 1), (4, .int 0), (0, .ref bq), (1, .int x1), (2, .ref dq), (3, .int x3)]) hx hb d_B_sidesToCut_42 hl (by decide) rfl (fun ls hl => ?_)
      refine lv_iload hx hb d_B_sidesToCut_44 (lv_at hl 1 rfl) ?_
      refine lv_iload hx hb d_B_sidesToCut_46 (lv_at hl 0 rfl) ?_
      refine lv_iadd hx hb d_B_sidesToCut_48 ?_
      cases hm
      exact W.iret hx hb hr (fun t ht hW => ⟨_, rfl, rfl, ht⟩) (fun _ h => nomatch h) d_B_sidesToCut_49
    · replace hm := if_t c9 hm
      refine lv_iconst (v := 0) hx hb d_B_sidesToCut_37 (by decide) ?_
      refine lv_goto (tgt := 42) hx hb d_B_sidesToCut_38 (by decide) ?_
      refine lv_istore (lv' := [(5, .int 0), (4, .int 0), (0, .ref bq), (1, .int x1), (2, .ref dq), (3, .int x3)]) hx hb d_B_sidesToCut_42 hl (by decide) rfl (fun ls hl => ?_)
      refine lv_iload hx hb d_B_sidesToCut_44 (lv_at hl 1 rfl) ?_
      refine lv_iload hx hb d_B_sidesToCut_46 (lv_at hl 0 rfl) ?_
      refine lv_iadd hx hb d_B_sidesToCut_48 ?_
      cases hm
      exact W.iret hx hb hr (fun t ht hW => ⟨_, rfl, rfl, ht⟩) (fun _ h => nomatch h) d_B_sidesToCut_49

def w_B_lengthOf : List Cond := .code y_B_lengthOf b_B_lengthOf 2 (some .int) :: W0
theorem q_B_lengthOf : y_B_lengthOf.cls = R_B ∧ y_B_lengthOf.cls ≠ "java/lang/invoke/MethodHandle" ∧ y_B_lengthOf.cls ≠ "java/lang/invoke/VarHandle" ∧ (parseMethodDescriptor y_B_lengthOf.desc).map (fun d => d.parameters.length) = some 1 := by decide +kernel
def m_B_lengthOf (b_lengths : Nat → Int32) (x1 : Int32) : Option Int32 :=
  (if x1 < 0 ∨ 10 ≤ x1.toNatClampNeg then none else
some (b_lengths x1.toNatClampNeg))
set_option maxHeartbeats 4000000 in
set_option maxRecDepth 100000 in
theorem c_B_lengthOf (l : Launch) (dC : Nat → ClassId) (dI : Nat → Nat → Nat) (cI : ClassId) (bq bq1 bq2 bq3 bq4 : Nat) (b_thicks : Nat → Int32) (b_wides : Nat → Int32) (b_lengths : Nat → Int32) (b_grades : Nat → Int32) (b_count : Int32) (x1 : Int32) (N : Nat) (res : Int32) (hm : m_B_lengthOf b_lengths x1 = some res) : Met l y_B_lengthOf w_B_lengthOf ({ frames := 0, cells := 0, slots := 0, locals := 0 } : Room) (va_Pc [.ref bq, .int x1] (fun U => va_P (dC, dI) classes [(bq, .inr (0, [.ref bq1, .ref bq2, .ref bq3, .ref bq4, .int b_count])), (bq1, .inl (cI, 10, .inl b_thicks)), (bq2, .inl (cI, 10, .inl b_wides)), (bq3, .inl (cI, 10, .inl b_lengths)), (bq4, .inl (cI, 10, .inl b_grades))] U.heap ∧ va_K (dC, dI) classes [(cI, .int)] U ∧ nw U)) (vp_Si (fun x => res = x)) 0 0 (fun _ => False) := by
  unfold m_B_lengthOf at hm
  refine Met.ofW (cc := b_B_lengthOf) (maxL := 2) (ret := (some .int)) (by decide) rfl ?_
  intro p e s m args below meth c s₁ B hml hv
  obtain ⟨rfl, hP, hK, hN⟩ := hv
  have hx := B.exec
  have hb := B.bytes
  have hr := B.returns
  have hts := atoms_spec (ws := w_B_lengthOf) B.pre
  have hown : s.vm.findClass R_B = some m.cls := findClass_of_methodNamed B.named
  have hlocks := B.notSynchronized
  have hk0 := hts (.fieldLink R_B 18 "SurplusMatch$Boards" "lengths" "[I") (List.mem_cons_of_mem _ (w0 60 rfl))
  have hk1 : ∀ w ∈ w_B, w ∈ w_B_lengthOf := fun w h => List.mem_cons_of_mem _ (i_B w h)
  have hl := lv_entry ([.ref bq, .int x1]) (n := 2) (Nat.le_of_ble_eq_true rfl)
  rw [lg_entry_eq]
  generalize (lg_sl ([.ref bq, .int x1]) ++ List.replicate (2 - (lg_sl ([.ref bq, .int x1])).length) Slot.unset).toArray = ls at hl ⊢
  have hl : lv_has ls 2 [(0, .ref bq), (1, .int x1)] := hl
  refine lv_aload_n hx hb d_B_lengthOf_0 rfl (lv_at hl 0 rfl) ?_
  refine va_get (D := (dC, dI)) (ci := 0) (v := .ref bq3) (C := R_B) (T := F_B) (N := 5) hx hb hts hk1 hown hK hP 0 rfl rfl 2 (by decide) hk0 (fun _ h9 => h9) rfl d_B_lengthOf_1 ?_
  refine lv_iload_n hx hb d_B_lengthOf_4 rfl (lv_at hl 1 rfl) ?_
  obtain ⟨h9, hm⟩ := gd hm
  refine va_iald hx hb hK hP 3 0 rfl rfl h9 d_B_lengthOf_5 ?_
  cases hm
  exact W.iret hx hb hr (fun t ht hW => ⟨_, rfl, rfl, ht⟩) (fun _ h => nomatch h) d_B_lengthOf_6

def w_B_totalLength : List Cond := .code y_B_totalLength b_B_totalLength 4 (some .int) :: W0
theorem q_B_totalLength : y_B_totalLength.cls = R_B ∧ y_B_totalLength.cls ≠ "java/lang/invoke/MethodHandle" ∧ y_B_totalLength.cls ≠ "java/lang/invoke/VarHandle" ∧ (parseMethodDescriptor y_B_totalLength.desc).map (fun d => d.parameters.length) = some 1 := by decide +kernel
def L_B_totalLength_4 (N : Nat) (b_lengths : Nat → Int32) (b_count : Int32) (K : Int32 → Int32 → Int32 → Option Int32) : Nat → Int32 → Int32 → Int32 → Option Int32
  | 0, _, _, _ => none
  | n + 1, y1a, y2a, y3a =>
    (if b_count ≤ y3a then
    K y1a y2a y3a
   else
    (if ((y1a >>> (y3a &&& 31)) &&& 1) = 1 then
      (if y3a < 0 ∨ 10 ≤ y3a.toNatClampNeg then none else
      L_B_totalLength_4 N b_lengths b_count K n y1a (y2a + (b_lengths y3a.toNatClampNeg)) (y3a + 1))
     else
      L_B_totalLength_4 N b_lengths b_count K n y1a y2a (y3a + 1)))
def m_B_totalLength (N : Nat) (b_lengths : Nat → Int32) (b_count : Int32) (x1 : Int32) : Option Int32 :=
  L_B_totalLength_4 N b_lengths b_count (fun y1a y2a y3a =>
  some y2a) N x1 0 0
set_option maxHeartbeats 4000000 in
set_option maxRecDepth 100000 in
theorem c_B_totalLength (l : Launch) (dC : Nat → ClassId) (dI : Nat → Nat → Nat) (cI : ClassId) (bq bq1 bq2 bq3 bq4 : Nat) (b_thicks : Nat → Int32) (b_wides : Nat → Int32) (b_lengths : Nat → Int32) (b_grades : Nat → Int32) (b_count : Int32) (x1 : Int32) (N : Nat) (res : Int32) (hm : m_B_totalLength N b_lengths b_count x1 = some res) : Met l y_B_totalLength w_B_totalLength ({ frames := 0, cells := 0, slots := 0, locals := 0 } : Room) (va_Pc [.ref bq, .int x1] (fun U => va_P (dC, dI) classes [(bq, .inr (0, [.ref bq1, .ref bq2, .ref bq3, .ref bq4, .int b_count])), (bq1, .inl (cI, 10, .inl b_thicks)), (bq2, .inl (cI, 10, .inl b_wides)), (bq3, .inl (cI, 10, .inl b_lengths)), (bq4, .inl (cI, 10, .inl b_grades))] U.heap ∧ va_K (dC, dI) classes [(cI, .int)] U ∧ nw U)) (vp_Si (fun x => res = x)) 0 0 (fun _ => False) := by
  unfold m_B_totalLength at hm
  refine Met.ofW (cc := b_B_totalLength) (maxL := 4) (ret := (some .int)) (by decide) rfl ?_
  intro p e s m args below meth c s₁ B hml hv
  obtain ⟨rfl, hP, hK, hN⟩ := hv
  have hx := B.exec
  have hb := B.bytes
  have hr := B.returns
  have hts := atoms_spec (ws := w_B_totalLength) B.pre
  have hown : s.vm.findClass R_B = some m.cls := findClass_of_methodNamed B.named
  have hlocks := B.notSynchronized
  have hk0 := hts (.fieldLink R_B 24 "SurplusMatch$Boards" "count" "I") (List.mem_cons_of_mem _ (w0 62 rfl))
  have hk1 : ∀ w ∈ w_B, w ∈ w_B_totalLength := fun w h => List.mem_cons_of_mem _ (i_B w h)
  have hk2 := hts (.fieldLink R_B 18 "SurplusMatch$Boards" "lengths" "[I") (List.mem_cons_of_mem _ (w0 60 rfl))
  have hl := lv_entry ([.ref bq, .int x1]) (n := 4) (Nat.le_of_ble_eq_true rfl)
  rw [lg_entry_eq]
  generalize (lg_sl ([.ref bq, .int x1]) ++ List.replicate (4 - (lg_sl ([.ref bq, .int x1])).length) Slot.unset).toArray = ls at hl ⊢
  have hl : lv_has ls 4 [(0, .ref bq), (1, .int x1)] := hl
  refine lv_iconst (v := 0) hx hb d_B_totalLength_0 (by decide) ?_
  refine lv_istore_n (lv' := [(2, .int 0), (0, .ref bq), (1, .int x1)]) hx hb d_B_totalLength_1 rfl hl (by decide) rfl (fun ls hl => ?_)
  refine lv_iconst (v := 0) hx hb d_B_totalLength_2 (by decide) ?_
  refine lv_istore_n (lv' := [(3, .int 0), (2, .int 0), (0, .ref bq), (1, .int x1)]) hx hb d_B_totalLength_3 rfl hl (by decide) rfl (fun ls hl => ?_)
  have key4 : ∀ (K : Int32 → Int32 → Int32 → Option Int32) (_ : ∀ (y1a : Int32) (y2a : Int32) (y3a : Int32) (ls : Array Slot), lv_has ls 4 [(0, .ref bq), (1, .int y1a), (2, .int y2a), (3, .int y3a)] → K y1a y2a y3a = some res → W p l e (headSpec w_B_totalLength ({ frames := 0, cells := 0, slots := 0, locals := 0 } : Room)).room s m ([.ref bq, .int x1] : List Value).toArray below meth c s.heap [] 0 0 (MQ below (vp_Si (fun x => res = x)) ([.ref bq, .int x1] : List Value).toArray s 0 0 (fun _ => False)) (F0 m 36 ls [])) (n : Nat) (y1a : Int32) (y2a : Int32) (y3a : Int32) (ls : Array Slot), lv_has ls 4 [(0, .ref bq), (1, .int y1a), (2, .int y2a), (3, .int y3a)] → L_B_totalLength_4 N b_lengths b_count K n y1a y2a y3a = some res → W p l e (headSpec w_B_totalLength ({ frames := 0, cells := 0, slots := 0, locals := 0 } : Room)).room s m ([.ref bq, .int x1] : List Value).toArray below meth c s.heap [] 0 0 (MQ below (vp_Si (fun x => res = x)) ([.ref bq, .int x1] : List Value).toArray s 0 0 (fun _ => False)) (F0 m 4 ls []) := by
    intro K hK4 n
    induction n with
    | zero => intro y1a y2a y3a ls hl hm; exact absurd hm (by simp [L_B_totalLength_4])
    | succ n ih4 =>
      intro y1a y2a y3a ls hl hm
      rw [L_B_totalLength_4] at hm
      refine lv_iload_n hx hb d_B_totalLength_4 rfl (lv_at hl 3 rfl) ?_
      refine lv_aload_n hx hb d_B_totalLength_5 rfl (lv_at hl 0 rfl) ?_
      refine va_get (D := (dC, dI)) (ci := 0) (v := .int b_count) (C := R_B) (T := F_B) (N := 5) hx hb hts hk1 hown hK hP 0 rfl rfl 4 (by decide) hk0 (fun _ h9 => h9) rfl d_B_totalLength_6 ?_
      refine lv_icmp_ge (tgt := 36) hx hb d_B_totalLength_9 (by decide) (fun c9 => ?_) (fun c9 => ?_)
      · replace hm := if_t c9 hm
        have hl : lv_has ls 4 [(0, .ref bq), (1, .int y1a), (2, .int y2a), (3, .int y3a)] := lv_sub hl [0, 1, 2, 3] rfl
        exact hK4 y1a y2a y3a ls hl hm
      · replace hm := if_f c9 hm
        refine lv_iload_n hx hb d_B_totalLength_12 rfl (lv_at hl 1 rfl) ?_
        refine lv_iload_n hx hb d_B_totalLength_13 rfl (lv_at hl 3 rfl) ?_
        refine lv_ishr hx hb d_B_totalLength_14 ?_
        refine lv_iconst (v := 1) hx hb d_B_totalLength_15 (by decide) ?_
        refine lv_iand hx hb d_B_totalLength_16 ?_
        refine lv_iconst (v := 1) hx hb d_B_totalLength_17 (by decide) ?_
        refine lv_icmp_ne (tgt := 30) hx hb d_B_totalLength_18 (by decide) (fun c9 => ?_) (fun c9 => ?_)
        · replace hm := if_f c9 hm
          refine lv_iinc (v := (y3a + 1)) (lv' := [(3, .int (y3a + 1)), (0, .ref bq), (1, .int y1a), (2, .int y2a)]) hx hb d_B_totalLength_30 hl (k := 3) rfl rfl (by decide) rfl (fun ls hl => ?_)
          refine lv_goto (tgt := 4) hx hb d_B_totalLength_33 (by decide) ?_
          have hl : lv_has ls 4 [(0, .ref bq), (1, .int y1a), (2, .int y2a), (3, .int (y3a + 1))] := lv_sub hl [1, 2, 3, 0] rfl
          exact ih4 y1a y2a (y3a + 1) ls hl hm
        · replace hm := if_t c9 hm
          refine lv_iload_n hx hb d_B_totalLength_21 rfl (lv_at hl 2 rfl) ?_
          refine lv_aload_n hx hb d_B_totalLength_22 rfl (lv_at hl 0 rfl) ?_
          refine va_get (D := (dC, dI)) (ci := 0) (v := .ref bq3) (C := R_B) (T := F_B) (N := 5) hx hb hts hk1 hown hK hP 0 rfl rfl 2 (by decide) hk2 (fun _ h9 => h9) rfl d_B_totalLength_23 ?_
          refine lv_iload_n hx hb d_B_totalLength_26 rfl (lv_at hl 3 rfl) ?_
          obtain ⟨h9, hm⟩ := gd hm
          refine va_iald hx hb hK hP 3 0 rfl rfl h9 d_B_totalLength_27 ?_
          refine lv_iadd hx hb d_B_totalLength_28 ?_
          refine lv_istore_n (lv' := [(2, .int (y2a + (b_lengths y3a.toNatClampNeg))), (0, .ref bq), (1, .int y1a), (3, .int y3a)]) hx hb d_B_totalLength_29 rfl hl (by decide) rfl (fun ls hl => ?_)
          refine lv_iinc (v := (y3a + 1)) (lv' := [(3, .int (y3a + 1)), (2, .int (y2a + (b_lengths y3a.toNatClampNeg))), (0, .ref bq), (1, .int y1a)]) hx hb d_B_totalLength_30 hl (k := 3) rfl rfl (by decide) rfl (fun ls hl => ?_)
          refine lv_goto (tgt := 4) hx hb d_B_totalLength_33 (by decide) ?_
          have hl : lv_has ls 4 [(0, .ref bq), (1, .int y1a), (2, .int (y2a + (b_lengths y3a.toNatClampNeg))), (3, .int (y3a + 1))] := lv_sub hl [2, 3, 1, 0] rfl
          exact ih4 y1a (y2a + (b_lengths y3a.toNatClampNeg)) (y3a + 1) ls hl hm
  have hl : lv_has ls 4 [(0, .ref bq), (1, .int x1), (2, .int 0), (3, .int 0)] := lv_sub hl [2, 3, 1, 0] rfl
  refine key4 _ (fun y1a y2a y3a ls hl hm => ?_) N x1 0 0 ls hl hm
  try dsimp only at hm
  refine lv_iload_n hx hb d_B_totalLength_36 rfl (lv_at hl 2 rfl) ?_
  cases hm
  exact W.iret hx hb hr (fun t ht hW => ⟨_, rfl, rfl, ht⟩) (fun _ h => nomatch h) d_B_totalLength_37

def w_B_add : List Cond := .code y_B_add b_B_add 6 (some .int) :: W0
theorem q_B_add : y_B_add.cls = R_B ∧ y_B_add.cls ≠ "java/lang/invoke/MethodHandle" ∧ y_B_add.cls ≠ "java/lang/invoke/VarHandle" ∧ (parseMethodDescriptor y_B_add.desc).map (fun d => d.parameters.length) = some 4 := by decide +kernel
def m_B_add (b_thicks : Nat → Int32) (b_wides : Nat → Int32) (b_lengths : Nat → Int32) (b_grades : Nat → Int32) (b_count : Int32) (x1 : Int32) (x2 : Int32) (x3 : Int32) (x4 : Int32) : Option (Int32 × (Nat → Int32) × (Nat → Int32) × (Nat → Int32) × (Nat → Int32) × Int32) :=
  (if b_count < 0 ∨ 10 ≤ b_count.toNatClampNeg then none else
(if b_count < 0 ∨ 10 ≤ b_count.toNatClampNeg then none else
(if b_count < 0 ∨ 10 ≤ b_count.toNatClampNeg then none else
(if b_count < 0 ∨ 10 ≤ b_count.toNatClampNeg then none else
some (b_count, (upd b_thicks b_count.toNatClampNeg x1), (upd b_wides b_count.toNatClampNeg x2), (upd b_lengths b_count.toNatClampNeg x3), (upd b_grades b_count.toNatClampNeg x4), (b_count + 1))))))
set_option maxHeartbeats 4000000 in
set_option maxRecDepth 100000 in
theorem c_B_add (l : Launch) (dC : Nat → ClassId) (dI : Nat → Nat → Nat) (cI : ClassId) (bq bq1 bq2 bq3 bq4 : Nat) (sz : Nat) (b_thicks : Nat → Int32) (b_wides : Nat → Int32) (b_lengths : Nat → Int32) (b_grades : Nat → Int32) (b_count : Int32) (x1 : Int32) (x2 : Int32) (x3 : Int32) (x4 : Int32) (N : Nat) (res : Int32 × (Nat → Int32) × (Nat → Int32) × (Nat → Int32) × (Nat → Int32) × Int32) (hm : m_B_add b_thicks b_wides b_lengths b_grades b_count x1 x2 x3 x4 = some res) : Met l y_B_add w_B_add ({ frames := 0, cells := 0, slots := 0, locals := 0 } : Room) (va_Pc [.ref bq, .int x1, .int x2, .int x3, .int x4] (fun U => U.heap.size = sz ∧ va_P (dC, dI) classes [(bq, .inr (0, [.ref bq1, .ref bq2, .ref bq3, .ref bq4, .int b_count])), (bq1, .inl (cI, 10, .inl b_thicks)), (bq2, .inl (cI, 10, .inl b_wides)), (bq3, .inl (cI, 10, .inl b_lengths)), (bq4, .inl (cI, 10, .inl b_grades))] U.heap ∧ va_K (dC, dI) classes [(cI, .int)] U ∧ va_D (fun _ => True) [(bq, .inr (0, [.ref bq1, .ref bq2, .ref bq3, .ref bq4, .int b_count])), (bq1, .inl (cI, 10, .inl b_thicks)), (bq2, .inl (cI, 10, .inl b_wides)), (bq3, .inl (cI, 10, .inl b_lengths)), (bq4, .inl (cI, 10, .inl b_grades))] ∧ nw U)) (va_Qi (fun (x : Int32) (_ : Unit) => res.1 = x) (fun _ t => va_P (dC, dI) classes [(bq, .inr (0, [.ref bq1, .ref bq2, .ref bq3, .ref bq4, .int res.2.2.2.2.2])), (bq1, .inl (cI, 10, .inl res.2.1)), (bq2, .inl (cI, 10, .inl res.2.2.1)), (bq3, .inl (cI, 10, .inl res.2.2.2.1)), (bq4, .inl (cI, 10, .inl res.2.2.2.2.1))] t.heap ∧ va_K (dC, dI) classes [(cI, .int)] t ∧ va_D (va_A [(bq, .inr (0, [.ref bq1, .ref bq2, .ref bq3, .ref bq4, .int b_count])), (bq1, .inl (cI, 10, .inl b_thicks)), (bq2, .inl (cI, 10, .inl b_wides)), (bq3, .inl (cI, 10, .inl b_lengths)), (bq4, .inl (cI, 10, .inl b_grades))] sz) [(bq, .inr (0, [.ref bq1, .ref bq2, .ref bq3, .ref bq4, .int res.2.2.2.2.2])), (bq1, .inl (cI, 10, .inl res.2.1)), (bq2, .inl (cI, 10, .inl res.2.2.1)), (bq3, .inl (cI, 10, .inl res.2.2.2.1)), (bq4, .inl (cI, 10, .inl res.2.2.2.2.1))]) (va_A [(bq, .inr (0, [.ref bq1, .ref bq2, .ref bq3, .ref bq4, .int b_count])), (bq1, .inl (cI, 10, .inl b_thicks)), (bq2, .inl (cI, 10, .inl b_wides)), (bq3, .inl (cI, 10, .inl b_lengths)), (bq4, .inl (cI, 10, .inl b_grades))] sz)) 0 0 (va_A [(bq, .inr (0, [.ref bq1, .ref bq2, .ref bq3, .ref bq4, .int b_count])), (bq1, .inl (cI, 10, .inl b_thicks)), (bq2, .inl (cI, 10, .inl b_wides)), (bq3, .inl (cI, 10, .inl b_lengths)), (bq4, .inl (cI, 10, .inl b_grades))] sz) := by
  unfold m_B_add at hm
  refine Met.ofW (cc := b_B_add) (maxL := 6) (ret := (some .int)) (by decide) rfl ?_
  intro p e s m args below meth c s₁ B hml hv
  obtain ⟨rfl, hsz, hP, hK, hD0, hN⟩ := hv
  have hx := B.exec
  have hb := B.bytes
  have hr := B.returns
  have hts := atoms_spec (ws := w_B_add) B.pre
  have hown : s.vm.findClass R_B = some m.cls := findClass_of_methodNamed B.named
  have hlocks := B.notSynchronized
  subst hsz
  have hD := hD0.self (sz := s.heap.size)
  generalize hAe : va_A [(bq, .inr (0, [.ref bq1, .ref bq2, .ref bq3, .ref bq4, .int b_count])), (bq1, .inl (cI, 10, .inl b_thicks)), (bq2, .inl (cI, 10, .inl b_wides)), (bq3, .inl (cI, 10, .inl b_lengths)), (bq4, .inl (cI, 10, .inl b_grades))] s.heap.size = A at hD ⊢
  have hA : ∀ q : Nat, s.heap.size ≤ q → A q := fun q h => by rw [← hAe]; exact Or.inr h
  have hS : va_S A s.heap s.heap [] := va_S.rf
  have hk0 := hts (.fieldLink R_B 24 "SurplusMatch$Boards" "count" "I") (List.mem_cons_of_mem _ (w0 62 rfl))
  have hk1 : ∀ w ∈ w_B, w ∈ w_B_add := fun w h => List.mem_cons_of_mem _ (i_B w h)
  have hk2 := hts (.fieldLink R_B 9 "SurplusMatch$Boards" "thicks" "[I") (List.mem_cons_of_mem _ (w0 58 rfl))
  have hk3 := hts (.fieldLink R_B 15 "SurplusMatch$Boards" "wides" "[I") (List.mem_cons_of_mem _ (w0 59 rfl))
  have hk4 := hts (.fieldLink R_B 18 "SurplusMatch$Boards" "lengths" "[I") (List.mem_cons_of_mem _ (w0 60 rfl))
  have hk5 := hts (.fieldLink R_B 21 "SurplusMatch$Boards" "grades" "[I") (List.mem_cons_of_mem _ (w0 61 rfl))
  have hl := lv_entry ([.ref bq, .int x1, .int x2, .int x3, .int x4]) (n := 6) (Nat.le_of_ble_eq_true rfl)
  rw [lg_entry_eq]
  generalize (lg_sl ([.ref bq, .int x1, .int x2, .int x3, .int x4]) ++ List.replicate (6 - (lg_sl ([.ref bq, .int x1, .int x2, .int x3, .int x4])).length) Slot.unset).toArray = ls at hl ⊢
  have hl : lv_has ls 6 [(0, .ref bq), (1, .int x1), (2, .int x2), (3, .int x3), (4, .int x4)] := hl
  refine lv_aload_n hx hb d_B_add_0 rfl (lv_at hl 0 rfl) ?_
  refine va_get (D := (dC, dI)) (ci := 0) (v := .int b_count) (C := R_B) (T := F_B) (N := 5) hx hb hts hk1 hown hK hP 0 rfl rfl 4 (by decide) hk0 (fun _ h9 => h9) rfl d_B_add_1 ?_
  refine lv_istore (lv' := [(5, .int b_count), (0, .ref bq), (1, .int x1), (2, .int x2), (3, .int x3), (4, .int x4)]) hx hb d_B_add_4 hl (by decide) rfl (fun ls hl => ?_)
  refine lv_aload_n hx hb d_B_add_6 rfl (lv_at hl 1 rfl) ?_
  refine va_get (D := (dC, dI)) (ci := 0) (v := .ref bq1) (C := R_B) (T := F_B) (N := 5) hx hb hts hk1 hown hK hP 0 rfl rfl 0 (by decide) hk2 (fun _ h9 => h9) rfl d_B_add_7 ?_
  refine lv_iload hx hb d_B_add_10 (lv_at hl 0 rfl) ?_
  refine lv_iload_n hx hb d_B_add_12 rfl (lv_at hl 2 rfl) ?_
  obtain ⟨h9, hm⟩ := gd hm
  refine va_iast hx hb hK hP hD hS 1 0 rfl rfl h9 d_B_add_13 (fun H locs hP hD hS => ?_)
  have hP : va_P (dC, dI) classes [(bq, .inr (0, [.ref bq1, .ref bq2, .ref bq3, .ref bq4, .int b_count])), (bq1, .inl (cI, 10, .inl (upd b_thicks b_count.toNatClampNeg x1))), (bq2, .inl (cI, 10, .inl b_wides)), (bq3, .inl (cI, 10, .inl b_lengths)), (bq4, .inl (cI, 10, .inl b_grades))] H := hP
  have hD : va_D A [(bq, .inr (0, [.ref bq1, .ref bq2, .ref bq3, .ref bq4, .int b_count])), (bq1, .inl (cI, 10, .inl (upd b_thicks b_count.toNatClampNeg x1))), (bq2, .inl (cI, 10, .inl b_wides)), (bq3, .inl (cI, 10, .inl b_lengths)), (bq4, .inl (cI, 10, .inl b_grades))] := hD
  refine lv_aload_n hx hb d_B_add_14 rfl (lv_at hl 1 rfl) ?_
  refine va_get (D := (dC, dI)) (ci := 0) (v := .ref bq2) (C := R_B) (T := F_B) (N := 5) hx hb hts hk1 hown hK hP 0 rfl rfl 1 (by decide) hk3 (fun _ h9 => h9) rfl d_B_add_15 ?_
  refine lv_iload hx hb d_B_add_18 (lv_at hl 0 rfl) ?_
  refine lv_iload_n hx hb d_B_add_20 rfl (lv_at hl 3 rfl) ?_
  obtain ⟨h9, hm⟩ := gd hm
  refine va_iast hx hb hK hP hD hS 2 0 rfl rfl h9 d_B_add_21 (fun H locs hP hD hS => ?_)
  have hP : va_P (dC, dI) classes [(bq, .inr (0, [.ref bq1, .ref bq2, .ref bq3, .ref bq4, .int b_count])), (bq1, .inl (cI, 10, .inl (upd b_thicks b_count.toNatClampNeg x1))), (bq2, .inl (cI, 10, .inl (upd b_wides b_count.toNatClampNeg x2))), (bq3, .inl (cI, 10, .inl b_lengths)), (bq4, .inl (cI, 10, .inl b_grades))] H := hP
  have hD : va_D A [(bq, .inr (0, [.ref bq1, .ref bq2, .ref bq3, .ref bq4, .int b_count])), (bq1, .inl (cI, 10, .inl (upd b_thicks b_count.toNatClampNeg x1))), (bq2, .inl (cI, 10, .inl (upd b_wides b_count.toNatClampNeg x2))), (bq3, .inl (cI, 10, .inl b_lengths)), (bq4, .inl (cI, 10, .inl b_grades))] := hD
  refine lv_aload_n hx hb d_B_add_22 rfl (lv_at hl 1 rfl) ?_
  refine va_get (D := (dC, dI)) (ci := 0) (v := .ref bq3) (C := R_B) (T := F_B) (N := 5) hx hb hts hk1 hown hK hP 0 rfl rfl 2 (by decide) hk4 (fun _ h9 => h9) rfl d_B_add_23 ?_
  refine lv_iload hx hb d_B_add_26 (lv_at hl 0 rfl) ?_
  refine lv_iload_n hx hb d_B_add_28 rfl (lv_at hl 4 rfl) ?_
  obtain ⟨h9, hm⟩ := gd hm
  refine va_iast hx hb hK hP hD hS 3 0 rfl rfl h9 d_B_add_29 (fun H locs hP hD hS => ?_)
  have hP : va_P (dC, dI) classes [(bq, .inr (0, [.ref bq1, .ref bq2, .ref bq3, .ref bq4, .int b_count])), (bq1, .inl (cI, 10, .inl (upd b_thicks b_count.toNatClampNeg x1))), (bq2, .inl (cI, 10, .inl (upd b_wides b_count.toNatClampNeg x2))), (bq3, .inl (cI, 10, .inl (upd b_lengths b_count.toNatClampNeg x3))), (bq4, .inl (cI, 10, .inl b_grades))] H := hP
  have hD : va_D A [(bq, .inr (0, [.ref bq1, .ref bq2, .ref bq3, .ref bq4, .int b_count])), (bq1, .inl (cI, 10, .inl (upd b_thicks b_count.toNatClampNeg x1))), (bq2, .inl (cI, 10, .inl (upd b_wides b_count.toNatClampNeg x2))), (bq3, .inl (cI, 10, .inl (upd b_lengths b_count.toNatClampNeg x3))), (bq4, .inl (cI, 10, .inl b_grades))] := hD
  refine lv_aload_n hx hb d_B_add_30 rfl (lv_at hl 1 rfl) ?_
  refine va_get (D := (dC, dI)) (ci := 0) (v := .ref bq4) (C := R_B) (T := F_B) (N := 5) hx hb hts hk1 hown hK hP 0 rfl rfl 3 (by decide) hk5 (fun _ h9 => h9) rfl d_B_add_31 ?_
  refine lv_iload hx hb d_B_add_34 (lv_at hl 0 rfl) ?_
  refine lv_iload hx hb d_B_add_36 (lv_at hl 5 rfl) ?_
  obtain ⟨h9, hm⟩ := gd hm
  refine va_iast hx hb hK hP hD hS 4 0 rfl rfl h9 d_B_add_38 (fun H locs hP hD hS => ?_)
  have hP : va_P (dC, dI) classes [(bq, .inr (0, [.ref bq1, .ref bq2, .ref bq3, .ref bq4, .int b_count])), (bq1, .inl (cI, 10, .inl (upd b_thicks b_count.toNatClampNeg x1))), (bq2, .inl (cI, 10, .inl (upd b_wides b_count.toNatClampNeg x2))), (bq3, .inl (cI, 10, .inl (upd b_lengths b_count.toNatClampNeg x3))), (bq4, .inl (cI, 10, .inl (upd b_grades b_count.toNatClampNeg x4)))] H := hP
  have hD : va_D A [(bq, .inr (0, [.ref bq1, .ref bq2, .ref bq3, .ref bq4, .int b_count])), (bq1, .inl (cI, 10, .inl (upd b_thicks b_count.toNatClampNeg x1))), (bq2, .inl (cI, 10, .inl (upd b_wides b_count.toNatClampNeg x2))), (bq3, .inl (cI, 10, .inl (upd b_lengths b_count.toNatClampNeg x3))), (bq4, .inl (cI, 10, .inl (upd b_grades b_count.toNatClampNeg x4)))] := hD
  refine lv_aload_n hx hb d_B_add_39 rfl (lv_at hl 1 rfl) ?_
  refine lv_dup hx hb d_B_add_40 rfl ?_
  refine va_get (D := (dC, dI)) (ci := 0) (v := .int b_count) (C := R_B) (T := F_B) (N := 5) hx hb hts hk1 hown hK hP 0 rfl rfl 4 (by decide) hk0 (fun _ h9 => h9) rfl d_B_add_41 ?_
  refine lv_iconst (v := 1) hx hb d_B_add_44 (by decide) ?_
  refine lv_iadd hx hb d_B_add_45 ?_
  refine va_put (D := (dC, dI)) (ci := 0) (v := .int (b_count + 1)) (ty := .int) (C := R_B) (T := F_B) (N := 5) hx hb hts hk1 t_B t_B_ok n_B hown hK hP hD hS 0 rfl rfl 4 (by decide) hk0 (fun _ h9 => h9) rfl (by decide +kernel) rfl rfl (Nat.le_of_ble_eq_true rfl) d_B_add_46 (fun H locs hP hD hS => ?_)
  have hP : va_P (dC, dI) classes [(bq, .inr (0, [.ref bq1, .ref bq2, .ref bq3, .ref bq4, .int (b_count + 1)])), (bq1, .inl (cI, 10, .inl (upd b_thicks b_count.toNatClampNeg x1))), (bq2, .inl (cI, 10, .inl (upd b_wides b_count.toNatClampNeg x2))), (bq3, .inl (cI, 10, .inl (upd b_lengths b_count.toNatClampNeg x3))), (bq4, .inl (cI, 10, .inl (upd b_grades b_count.toNatClampNeg x4)))] H := hP
  have hD : va_D A [(bq, .inr (0, [.ref bq1, .ref bq2, .ref bq3, .ref bq4, .int (b_count + 1)])), (bq1, .inl (cI, 10, .inl (upd b_thicks b_count.toNatClampNeg x1))), (bq2, .inl (cI, 10, .inl (upd b_wides b_count.toNatClampNeg x2))), (bq3, .inl (cI, 10, .inl (upd b_lengths b_count.toNatClampNeg x3))), (bq4, .inl (cI, 10, .inl (upd b_grades b_count.toNatClampNeg x4)))] := hD
  refine lv_iload hx hb d_B_add_49 (lv_at hl 0 rfl) ?_
  cases hm
  refine W.widen (k := 0) (n := 0) (Nat.le_of_ble_eq_true rfl) (Nat.le_of_ble_eq_true rfl) ?_
  exact W.iret hx hb hr (fun t ht hW => ⟨⟨_, (), rfl, rfl, by rw [ht]; exact hP, va_K.moved hW.alike hK, hD⟩, hS.F ht⟩) hS.2.2 d_B_add_51

