theorem d_B_init_0 : decode b_B_init 0 = .ok (.aload_n 0, 1) := by decide +kernel
theorem d_B_init_1 : decode b_B_init 1 = .ok (.invokespecial 3, 3) := by decide +kernel
theorem d_B_init_4 : decode b_B_init 4 = .ok (.aload_n 0, 1) := by decide +kernel
theorem d_B_init_5 : decode b_B_init 5 = .ok (.bipush 10, 2) := by decide +kernel
theorem d_B_init_7 : decode b_B_init 7 = .ok (.newarray .int, 2) := by decide +kernel
theorem d_B_init_9 : decode b_B_init 9 = .ok (.putfield 9, 3) := by decide +kernel
theorem d_B_init_12 : decode b_B_init 12 = .ok (.aload_n 0, 1) := by decide +kernel
theorem d_B_init_13 : decode b_B_init 13 = .ok (.bipush 10, 2) := by decide +kernel
theorem d_B_init_15 : decode b_B_init 15 = .ok (.newarray .int, 2) := by decide +kernel
theorem d_B_init_17 : decode b_B_init 17 = .ok (.putfield 15, 3) := by decide +kernel
theorem d_B_init_20 : decode b_B_init 20 = .ok (.aload_n 0, 1) := by decide +kernel
theorem d_B_init_21 : decode b_B_init 21 = .ok (.bipush 10, 2) := by decide +kernel
theorem d_B_init_23 : decode b_B_init 23 = .ok (.newarray .int, 2) := by decide +kernel
theorem d_B_init_25 : decode b_B_init 25 = .ok (.putfield 18, 3) := by decide +kernel
theorem d_B_init_28 : decode b_B_init 28 = .ok (.aload_n 0, 1) := by decide +kernel
theorem d_B_init_29 : decode b_B_init 29 = .ok (.bipush 10, 2) := by decide +kernel
theorem d_B_init_31 : decode b_B_init 31 = .ok (.newarray .int, 2) := by decide +kernel
theorem d_B_init_33 : decode b_B_init 33 = .ok (.putfield 21, 3) := by decide +kernel
theorem d_B_init_36 : decode b_B_init 36 = .ok (.return_, 1) := by decide +kernel
theorem d_U_init_0 : decode b_U_init 0 = .ok (.aload_n 0, 1) := by decide +kernel
theorem d_U_init_1 : decode b_U_init 1 = .ok (.invokespecial 3, 3) := by decide +kernel
theorem d_U_init_4 : decode b_U_init 4 = .ok (.aload_n 0, 1) := by decide +kernel
theorem d_U_init_5 : decode b_U_init 5 = .ok (.bipush 10, 2) := by decide +kernel
theorem d_U_init_7 : decode b_U_init 7 = .ok (.newarray .int, 2) := by decide +kernel
theorem d_U_init_9 : decode b_U_init 9 = .ok (.putfield 9, 3) := by decide +kernel
theorem d_U_init_12 : decode b_U_init 12 = .ok (.return_, 1) := by decide +kernel
theorem d_H_init_0 : decode b_H_init 0 = .ok (.aload_n 0, 1) := by decide +kernel
theorem d_H_init_1 : decode b_H_init 1 = .ok (.invokespecial 3, 3) := by decide +kernel
theorem d_H_init_4 : decode b_H_init 4 = .ok (.aload_n 0, 1) := by decide +kernel
theorem d_H_init_5 : decode b_H_init 5 = .ok (.bipush 10, 2) := by decide +kernel
theorem d_H_init_7 : decode b_H_init 7 = .ok (.newarray .int, 2) := by decide +kernel
theorem d_H_init_9 : decode b_H_init 9 = .ok (.putfield 9, 3) := by decide +kernel
theorem d_H_init_12 : decode b_H_init 12 = .ok (.aload_n 0, 1) := by decide +kernel
theorem d_H_init_13 : decode b_H_init 13 = .ok (.bipush 10, 2) := by decide +kernel
theorem d_H_init_15 : decode b_H_init 15 = .ok (.newarray .int, 2) := by decide +kernel
theorem d_H_init_17 : decode b_H_init 17 = .ok (.putfield 15, 3) := by decide +kernel
theorem d_H_init_20 : decode b_H_init 20 = .ok (.iconst 0, 1) := by decide +kernel
theorem d_H_init_21 : decode b_H_init 21 = .ok (.istore_n 1, 1) := by decide +kernel
theorem d_H_init_22 : decode b_H_init 22 = .ok (.iload_n 1, 1) := by decide +kernel
theorem d_H_init_23 : decode b_H_init 23 = .ok (.bipush 10, 2) := by decide +kernel
theorem d_H_init_25 : decode b_H_init 25 = .ok (.if_icmp .ge 16, 3) := by decide +kernel
theorem d_H_init_28 : decode b_H_init 28 = .ok (.aload_n 0, 1) := by decide +kernel
theorem d_H_init_29 : decode b_H_init 29 = .ok (.getfield 9, 3) := by decide +kernel
theorem d_H_init_32 : decode b_H_init 32 = .ok (.iload_n 1, 1) := by decide +kernel
theorem d_H_init_33 : decode b_H_init 33 = .ok (.iconst (-1), 1) := by decide +kernel
theorem d_H_init_34 : decode b_H_init 34 = .ok (.iastore, 1) := by decide +kernel
theorem d_H_init_35 : decode b_H_init 35 = .ok (.iinc 1 1, 3) := by decide +kernel
theorem d_H_init_38 : decode b_H_init 38 = .ok (.goto (-16), 3) := by decide +kernel
theorem d_H_init_41 : decode b_H_init 41 = .ok (.return_, 1) := by decide +kernel
theorem d_M_init_0 : decode b_M_init 0 = .ok (.aload_n 0, 1) := by decide +kernel
theorem d_M_init_1 : decode b_M_init 1 = .ok (.invokespecial 3, 3) := by decide +kernel
theorem d_M_init_4 : decode b_M_init 4 = .ok (.aload_n 0, 1) := by decide +kernel
theorem d_M_init_5 : decode b_M_init 5 = .ok (.bipush 100, 2) := by decide +kernel
theorem d_M_init_7 : decode b_M_init 7 = .ok (.newarray .int, 2) := by decide +kernel
theorem d_M_init_9 : decode b_M_init 9 = .ok (.putfield 9, 3) := by decide +kernel
theorem d_M_init_12 : decode b_M_init 12 = .ok (.aload_n 0, 1) := by decide +kernel
theorem d_M_init_13 : decode b_M_init 13 = .ok (.sipush 11264, 3) := by decide +kernel
theorem d_M_init_16 : decode b_M_init 16 = .ok (.newarray .int, 2) := by decide +kernel
theorem d_M_init_18 : decode b_M_init 18 = .ok (.putfield 15, 3) := by decide +kernel
theorem d_M_init_21 : decode b_M_init 21 = .ok (.aload_n 0, 1) := by decide +kernel
theorem d_M_init_22 : decode b_M_init 22 = .ok (.bipush 10, 2) := by decide +kernel
theorem d_M_init_24 : decode b_M_init 24 = .ok (.newarray .int, 2) := by decide +kernel
theorem d_M_init_26 : decode b_M_init 26 = .ok (.putfield 18, 3) := by decide +kernel
theorem d_M_init_29 : decode b_M_init 29 = .ok (.aload_n 0, 1) := by decide +kernel
theorem d_M_init_30 : decode b_M_init 30 = .ok (.bipush 10, 2) := by decide +kernel
theorem d_M_init_32 : decode b_M_init 32 = .ok (.newarray .int, 2) := by decide +kernel
theorem d_M_init_34 : decode b_M_init 34 = .ok (.putfield 21, 3) := by decide +kernel
theorem d_M_init_37 : decode b_M_init 37 = .ok (.aload_n 0, 1) := by decide +kernel
theorem d_M_init_38 : decode b_M_init 38 = .ok (.bipush 10, 2) := by decide +kernel
theorem d_M_init_40 : decode b_M_init 40 = .ok (.newarray .int, 2) := by decide +kernel
theorem d_M_init_42 : decode b_M_init 42 = .ok (.putfield 24, 3) := by decide +kernel
theorem d_M_init_45 : decode b_M_init 45 = .ok (.return_, 1) := by decide +kernel
theorem d_S_init_0 : decode b_S_init 0 = .ok (.aload_n 0, 1) := by decide +kernel
theorem d_S_init_1 : decode b_S_init 1 = .ok (.invokespecial 1, 3) := by decide +kernel
theorem d_S_init_4 : decode b_S_init 4 = .ok (.aload_n 0, 1) := by decide +kernel
theorem d_S_init_5 : decode b_S_init 5 = .ok (.new 7, 3) := by decide +kernel
theorem d_S_init_8 : decode b_S_init 8 = .ok (.dup, 1) := by decide +kernel
theorem d_S_init_9 : decode b_S_init 9 = .ok (.invokespecial 9, 3) := by decide +kernel
theorem d_S_init_12 : decode b_S_init 12 = .ok (.putfield 10, 3) := by decide +kernel
theorem d_S_init_15 : decode b_S_init 15 = .ok (.aload_n 0, 1) := by decide +kernel
theorem d_S_init_16 : decode b_S_init 16 = .ok (.new 7, 3) := by decide +kernel
theorem d_S_init_19 : decode b_S_init 19 = .ok (.dup, 1) := by decide +kernel
theorem d_S_init_20 : decode b_S_init 20 = .ok (.invokespecial 9, 3) := by decide +kernel
theorem d_S_init_23 : decode b_S_init 23 = .ok (.putfield 16, 3) := by decide +kernel
theorem d_S_init_26 : decode b_S_init 26 = .ok (.aload_n 0, 1) := by decide +kernel
theorem d_S_init_27 : decode b_S_init 27 = .ok (.bipush 10, 2) := by decide +kernel
theorem d_S_init_29 : decode b_S_init 29 = .ok (.newarray .int, 2) := by decide +kernel
theorem d_S_init_31 : decode b_S_init 31 = .ok (.putfield 19, 3) := by decide +kernel
theorem d_S_init_34 : decode b_S_init 34 = .ok (.aload_n 0, 1) := by decide +kernel
theorem d_S_init_35 : decode b_S_init 35 = .ok (.bipush 100, 2) := by decide +kernel
theorem d_S_init_37 : decode b_S_init 37 = .ok (.newarray .int, 2) := by decide +kernel
theorem d_S_init_39 : decode b_S_init 39 = .ok (.putfield 23, 3) := by decide +kernel
theorem d_S_init_42 : decode b_S_init 42 = .ok (.aload_n 0, 1) := by decide +kernel
theorem d_S_init_43 : decode b_S_init 43 = .ok (.new 26, 3) := by decide +kernel
theorem d_S_init_46 : decode b_S_init 46 = .ok (.dup, 1) := by decide +kernel
theorem d_S_init_47 : decode b_S_init 47 = .ok (.invokespecial 28, 3) := by decide +kernel
theorem d_S_init_50 : decode b_S_init 50 = .ok (.putfield 29, 3) := by decide +kernel
theorem d_S_init_53 : decode b_S_init 53 = .ok (.aload_n 0, 1) := by decide +kernel
theorem d_S_init_54 : decode b_S_init 54 = .ok (.new 33, 3) := by decide +kernel
theorem d_S_init_57 : decode b_S_init 57 = .ok (.dup, 1) := by decide +kernel
theorem d_S_init_58 : decode b_S_init 58 = .ok (.invokespecial 35, 3) := by decide +kernel
theorem d_S_init_61 : decode b_S_init 61 = .ok (.putfield 36, 3) := by decide +kernel
theorem d_S_init_64 : decode b_S_init 64 = .ok (.aload_n 0, 1) := by decide +kernel
theorem d_S_init_65 : decode b_S_init 65 = .ok (.new 40, 3) := by decide +kernel
theorem d_S_init_68 : decode b_S_init 68 = .ok (.dup, 1) := by decide +kernel
theorem d_S_init_69 : decode b_S_init 69 = .ok (.invokespecial 42, 3) := by decide +kernel
theorem d_S_init_72 : decode b_S_init 72 = .ok (.putfield 43, 3) := by decide +kernel
theorem d_S_init_75 : decode b_S_init 75 = .ok (.aload_n 0, 1) := by decide +kernel
theorem d_S_init_76 : decode b_S_init 76 = .ok (.bipush 100, 2) := by decide +kernel
theorem d_S_init_78 : decode b_S_init 78 = .ok (.putfield 47, 3) := by decide +kernel
theorem d_S_init_81 : decode b_S_init 81 = .ok (.return_, 1) := by decide +kernel
theorem d_D_init_0 : decode b_D_init 0 = .ok (.aload_n 0, 1) := by decide +kernel
theorem d_D_init_1 : decode b_D_init 1 = .ok (.invokespecial 1, 3) := by decide +kernel
theorem d_D_init_4 : decode b_D_init 4 = .ok (.aload_n 0, 1) := by decide +kernel
theorem d_D_init_5 : decode b_D_init 5 = .ok (.bipush 100, 2) := by decide +kernel
theorem d_D_init_7 : decode b_D_init 7 = .ok (.putfield 7, 3) := by decide +kernel
theorem d_D_init_10 : decode b_D_init 10 = .ok (.aload_n 0, 1) := by decide +kernel
theorem d_D_init_11 : decode b_D_init 11 = .ok (.bipush 40, 2) := by decide +kernel
theorem d_D_init_13 : decode b_D_init 13 = .ok (.newarray .int, 2) := by decide +kernel
theorem d_D_init_15 : decode b_D_init 15 = .ok (.putfield 13, 3) := by decide +kernel
theorem d_D_init_18 : decode b_D_init 18 = .ok (.aload_n 0, 1) := by decide +kernel
theorem d_D_init_19 : decode b_D_init 19 = .ok (.bipush 40, 2) := by decide +kernel
theorem d_D_init_21 : decode b_D_init 21 = .ok (.newarray .int, 2) := by decide +kernel
theorem d_D_init_23 : decode b_D_init 23 = .ok (.putfield 17, 3) := by decide +kernel
theorem d_D_init_26 : decode b_D_init 26 = .ok (.aload_n 0, 1) := by decide +kernel
theorem d_D_init_27 : decode b_D_init 27 = .ok (.bipush 10, 2) := by decide +kernel
theorem d_D_init_29 : decode b_D_init 29 = .ok (.newarray .int, 2) := by decide +kernel
theorem d_D_init_31 : decode b_D_init 31 = .ok (.putfield 20, 3) := by decide +kernel
theorem d_D_init_34 : decode b_D_init 34 = .ok (.aload_n 0, 1) := by decide +kernel
theorem d_D_init_35 : decode b_D_init 35 = .ok (.bipush 100, 2) := by decide +kernel
theorem d_D_init_37 : decode b_D_init 37 = .ok (.newarray .int, 2) := by decide +kernel
theorem d_D_init_39 : decode b_D_init 39 = .ok (.putfield 23, 3) := by decide +kernel
theorem d_D_init_42 : decode b_D_init 42 = .ok (.aload_n 0, 1) := by decide +kernel
theorem d_D_init_43 : decode b_D_init 43 = .ok (.bipush 10, 2) := by decide +kernel
theorem d_D_init_45 : decode b_D_init 45 = .ok (.newarray .boolean, 2) := by decide +kernel
theorem d_D_init_47 : decode b_D_init 47 = .ok (.putfield 26, 3) := by decide +kernel
theorem d_D_init_50 : decode b_D_init 50 = .ok (.aload_n 0, 1) := by decide +kernel
theorem d_D_init_51 : decode b_D_init 51 = .ok (.bipush 10, 2) := by decide +kernel
theorem d_D_init_53 : decode b_D_init 53 = .ok (.newarray .int, 2) := by decide +kernel
theorem d_D_init_55 : decode b_D_init 55 = .ok (.putfield 30, 3) := by decide +kernel
theorem d_D_init_58 : decode b_D_init 58 = .ok (.aload_n 0, 1) := by decide +kernel
theorem d_D_init_59 : decode b_D_init 59 = .ok (.bipush 10, 2) := by decide +kernel
theorem d_D_init_61 : decode b_D_init 61 = .ok (.newarray .int, 2) := by decide +kernel
theorem d_D_init_63 : decode b_D_init 63 = .ok (.putfield 33, 3) := by decide +kernel
theorem d_D_init_66 : decode b_D_init 66 = .ok (.aload_n 0, 1) := by decide +kernel
theorem d_D_init_67 : decode b_D_init 67 = .ok (.bipush 10, 2) := by decide +kernel
theorem d_D_init_69 : decode b_D_init 69 = .ok (.newarray .int, 2) := by decide +kernel
theorem d_D_init_71 : decode b_D_init 71 = .ok (.putfield 36, 3) := by decide +kernel
theorem d_D_init_74 : decode b_D_init 74 = .ok (.aload_n 0, 1) := by decide +kernel
theorem d_D_init_75 : decode b_D_init 75 = .ok (.bipush 10, 2) := by decide +kernel
theorem d_D_init_77 : decode b_D_init 77 = .ok (.newarray .int, 2) := by decide +kernel
theorem d_D_init_79 : decode b_D_init 79 = .ok (.putfield 39, 3) := by decide +kernel
theorem d_D_init_82 : decode b_D_init 82 = .ok (.aload_n 0, 1) := by decide +kernel
theorem d_D_init_83 : decode b_D_init 83 = .ok (.bipush 10, 2) := by decide +kernel
theorem d_D_init_85 : decode b_D_init 85 = .ok (.newarray .int, 2) := by decide +kernel
theorem d_D_init_87 : decode b_D_init 87 = .ok (.putfield 42, 3) := by decide +kernel
theorem d_D_init_90 : decode b_D_init 90 = .ok (.aload_n 0, 1) := by decide +kernel
theorem d_D_init_91 : decode b_D_init 91 = .ok (.sipush 11264, 3) := by decide +kernel
theorem d_D_init_94 : decode b_D_init 94 = .ok (.newarray .long, 2) := by decide +kernel
theorem d_D_init_96 : decode b_D_init 96 = .ok (.putfield 45, 3) := by decide +kernel
theorem d_D_init_99 : decode b_D_init 99 = .ok (.return_, 1) := by decide +kernel
def w_B_init : List Cond := .code y_B_init b_B_init 1 none :: W0
theorem q_B_init : y_B_init.cls = R_B ∧ y_B_init.cls ≠ "java/lang/invoke/MethodHandle" ∧ y_B_init.cls ≠ "java/lang/invoke/VarHandle" ∧ (parseMethodDescriptor y_B_init.desc).map (fun d => d.parameters.length) = some 0 := by decide +kernel
set_option maxHeartbeats 4000000 in
set_option maxRecDepth 100000 in
theorem c_B_init (l : Launch) (dC : Nat → ClassId) (dI : Nat → Nat → Nat) (cI : ClassId) (bq : Nat) (sz : Nat) : Met l y_B_init w_B_init ({ frames := 1, cells := 4, slots := 40, locals := 24 } : Room) (va_Pc [.ref bq] (fun U => U.heap.size = sz ∧ va_P (dC, dI) classes [(bq, .inr (0, [.null, .null, .null, .null, .int 0]))] U.heap ∧ va_K (dC, dI) classes [(cI, .int)] U ∧ va_D (fun _ => True) [(bq, .inr (0, [.null, .null, .null, .null, .int 0]))] ∧ nw U)) (va_Qv (fun _ : Nat × Nat × Nat × Nat => True) (fun u t => va_P (dC, dI) classes [(bq, .inr (0, [.ref u.1, .ref u.2.1, .ref u.2.2.1, .ref u.2.2.2, .int 0])), (u.1, .inl (cI, 10, .inl (fun _ => 0))), (u.2.1, .inl (cI, 10, .inl (fun _ => 0))), (u.2.2.1, .inl (cI, 10, .inl (fun _ => 0))), (u.2.2.2, .inl (cI, 10, .inl (fun _ => 0)))] t.heap ∧ va_K (dC, dI) classes [(cI, .int)] t ∧ va_D (va_A [(bq, .inr (0, [.null, .null, .null, .null, .int 0]))] sz) [(bq, .inr (0, [.ref u.1, .ref u.2.1, .ref u.2.2.1, .ref u.2.2.2, .int 0])), (u.1, .inl (cI, 10, .inl (fun _ => 0))), (u.2.1, .inl (cI, 10, .inl (fun _ => 0))), (u.2.2.1, .inl (cI, 10, .inl (fun _ => 0))), (u.2.2.2, .inl (cI, 10, .inl (fun _ => 0)))]) (va_A [(bq, .inr (0, [.null, .null, .null, .null, .int 0]))] sz)) 4 40 (va_A [(bq, .inr (0, [.null, .null, .null, .null, .int 0]))] sz) := by
  refine Met.ofW (cc := b_B_init) (maxL := 1) (ret := none) (by decide) rfl ?_
  intro p e s m args below meth c s₁ B hml hv
  obtain ⟨rfl, hsz, hP, hK, hD0, hN⟩ := hv
  have hx := B.exec
  have hb := B.bytes
  have hr := B.returns
  have hts := atoms_spec (ws := w_B_init) B.pre
  have hown : s.vm.findClass R_B = some m.cls := findClass_of_methodNamed B.named
  have hin : meth.name = "<init>" := (name_of_methodNamed B.named B.method).1
  have hlocks := B.notSynchronized
  subst hsz
  have hD := hD0.self (sz := s.heap.size)
  generalize hAe : va_A [(bq, .inr (0, [.null, .null, .null, .null, .int 0]))] s.heap.size = A at hD ⊢
  have hA : ∀ q : Nat, s.heap.size ≤ q → A q := fun q h => by rw [← hAe]; exact Or.inr h
  have hS : va_S A s.heap s.heap [] := va_S.rf
  have hk0 := hts (.methodLink R_B 3 objectInit) (List.mem_cons_of_mem _ (w0 57 rfl))
  have hk1 := hts (.instanceMethod objectInit) (List.mem_cons_of_mem _ (w0 50 rfl))
  have hk2 := hts (.arrayClass .int) (List.mem_cons_of_mem _ (w0 74 rfl))
  have hk3 := hts (.fieldLink R_B 9 "SurplusMatch$Boards" "thicks" "[I") (List.mem_cons_of_mem _ (w0 58 rfl))
  have hk4 : ∀ w ∈ w_B, w ∈ w_B_init := fun w h => List.mem_cons_of_mem _ (i_B w h)
  have hk5 := hts (.fieldLink R_B 15 "SurplusMatch$Boards" "wides" "[I") (List.mem_cons_of_mem _ (w0 59 rfl))
  have hk6 := hts (.fieldLink R_B 18 "SurplusMatch$Boards" "lengths" "[I") (List.mem_cons_of_mem _ (w0 60 rfl))
  have hk7 := hts (.fieldLink R_B 21 "SurplusMatch$Boards" "grades" "[I") (List.mem_cons_of_mem _ (w0 61 rfl))
  have hl := lv_entry ([.ref bq]) (n := 1) (Nat.le_of_ble_eq_true rfl)
  rw [lg_entry_eq]
  generalize (lg_sl ([.ref bq]) ++ List.replicate (1 - (lg_sl ([.ref bq])).length) Slot.unset).toArray = ls at hl ⊢
  have hl : lv_has ls 1 [(0, .ref bq)] := hl
  refine lv_aload_n hx hb d_B_init_0 rfl (lv_at hl 0 rfl) ?_
  refine W.objInit hx hb hown hk0 hk1 (hts _ (List.mem_cons_of_mem _ (w0 51 rfl))) rfl (by rw [hml]; exact hl.1) rfl d_B_init_1 (Nat.le_of_ble_eq_true rfl) (Nat.le_of_ble_eq_true rfl) ?_
  refine W.eq (g2 := F0 m 4 ls []) rfl ?_
  refine lv_aload_n hx hb d_B_init_4 rfl (lv_at hl 0 rfl) ?_
  refine lv_bipush (v := 10) hx hb d_B_init_5 (by decide) ?_
  refine va_newa (atype := .int) (ty := .int) hx hb hk2 rfl hK hP hD hS hA (N' := 10) (a0 := (10, .inl (fun _ => 0))) (fun _ => rfl) (by decide) (by decide) (by decide) (Nat.le_of_ble_eq_true rfl) (Nat.le_of_ble_eq_true rfl) d_B_init_7 (fun n1 cA H hK9 hP hD hS => ?_)
  have hcA : cI = cA := cA_eq hK9 0 1 rfl rfl (fun _ => Iff.rfl)
  subst hcA
  clear hK9
  have hP : va_P (dC, dI) classes [(bq, .inr (0, [.null, .null, .null, .null, .int 0])), (n1, .inl (cI, 10, .inl (fun _ => 0)))] H := hP
  have hD : va_D A [(bq, .inr (0, [.null, .null, .null, .null, .int 0])), (n1, .inl (cI, 10, .inl (fun _ => 0)))] := hD
  refine W.widen (k := 1) (n := 10) (Nat.le_of_ble_eq_true rfl) (Nat.le_of_ble_eq_true rfl) ?_
  refine va_putF (D := (dC, dI)) (ci := 0) (v := .ref n1) (ty := .array .int) (C := R_B) (T := F_B) (N := 5) hx hb hts hk4 t_B t_B_ok n_B hown hK hP hD hS 0 rfl rfl 0 (by decide) hk3 (fun _ h9 => h9) rfl hin rfl (by decide +kernel) rfl rfl (Nat.le_of_ble_eq_true rfl) d_B_init_9 (fun H locs hP hD hS => ?_)
  have hP : va_P (dC, dI) classes [(bq, .inr (0, [.ref n1, .null, .null, .null, .int 0])), (n1, .inl (cI, 10, .inl (fun _ => 0)))] H := hP
  have hD : va_D A [(bq, .inr (0, [.ref n1, .null, .null, .null, .int 0])), (n1, .inl (cI, 10, .inl (fun _ => 0)))] := hD
  refine lv_aload_n hx hb d_B_init_12 rfl (lv_at hl 0 rfl) ?_
  refine lv_bipush (v := 10) hx hb d_B_init_13 (by decide) ?_
  refine va_newa (atype := .int) (ty := .int) hx hb hk2 rfl hK hP hD hS hA (N' := 10) (a0 := (10, .inl (fun _ => 0))) (fun _ => rfl) (by decide) (by decide) (by decide) (Nat.le_of_ble_eq_true rfl) (Nat.le_of_ble_eq_true rfl) d_B_init_15 (fun n2 cA H hK9 hP hD hS => ?_)
  have hcA : cI = cA := cA_eq hK9 0 1 rfl rfl (fun _ => Iff.rfl)
  subst hcA
  clear hK9
  have hP : va_P (dC, dI) classes [(bq, .inr (0, [.ref n1, .null, .null, .null, .int 0])), (n1, .inl (cI, 10, .inl (fun _ => 0))), (n2, .inl (cI, 10, .inl (fun _ => 0)))] H := hP
  have hD : va_D A [(bq, .inr (0, [.ref n1, .null, .null, .null, .int 0])), (n1, .inl (cI, 10, .inl (fun _ => 0))), (n2, .inl (cI, 10, .inl (fun _ => 0)))] := hD
  refine W.widen (k := 2) (n := 20) (Nat.le_of_ble_eq_true rfl) (Nat.le_of_ble_eq_true rfl) ?_
  refine va_putF (D := (dC, dI)) (ci := 0) (v := .ref n2) (ty := .array .int) (C := R_B) (T := F_B) (N := 5) hx hb hts hk4 t_B t_B_ok n_B hown hK hP hD hS 0 rfl rfl 1 (by decide) hk5 (fun _ h9 => h9) rfl hin rfl (by decide +kernel) rfl rfl (Nat.le_of_ble_eq_true rfl) d_B_init_17 (fun H locs hP hD hS => ?_)
  have hP : va_P (dC, dI) classes [(bq, .inr (0, [.ref n1, .ref n2, .null, .null, .int 0])), (n1, .inl (cI, 10, .inl (fun _ => 0))), (n2, .inl (cI, 10, .inl (fun _ => 0)))] H := hP
  have hD : va_D A [(bq, .inr (0, [.ref n1, .ref n2, .null, .null, .int 0])), (n1, .inl (cI, 10, .inl (fun _ => 0))), (n2, .inl (cI, 10, .inl (fun _ => 0)))] := hD
  refine lv_aload_n hx hb d_B_init_20 rfl (lv_at hl 0 rfl) ?_
  refine lv_bipush (v := 10) hx hb d_B_init_21 (by decide) ?_
  refine va_newa (atype := .int) (ty := .int) hx hb hk2 rfl hK hP hD hS hA (N' := 10) (a0 := (10, .inl (fun _ => 0))) (fun _ => rfl) (by decide) (by decide) (by decide) (Nat.le_of_ble_eq_true rfl) (Nat.le_of_ble_eq_true rfl) d_B_init_23 (fun n3 cA H hK9 hP hD hS => ?_)
  have hcA : cI = cA := cA_eq hK9 0 1 rfl rfl (fun _ => Iff.rfl)
  subst hcA
  clear hK9
  have hP : va_P (dC, dI) classes [(bq, .inr (0, [.ref n1, .ref n2, .null, .null, .int 0])), (n1, .inl (cI, 10, .inl (fun _ => 0))), (n2, .inl (cI, 10, .inl (fun _ => 0))), (n3, .inl (cI, 10, .inl (fun _ => 0)))] H := hP
  have hD : va_D A [(bq, .inr (0, [.ref n1, .ref n2, .null, .null, .int 0])), (n1, .inl (cI, 10, .inl (fun _ => 0))), (n2, .inl (cI, 10, .inl (fun _ => 0))), (n3, .inl (cI, 10, .inl (fun _ => 0)))] := hD
  refine W.widen (k := 3) (n := 30) (Nat.le_of_ble_eq_true rfl) (Nat.le_of_ble_eq_true rfl) ?_
  refine va_putF (D := (dC, dI)) (ci := 0) (v := .ref n3) (ty := .array .int) (C := R_B) (T := F_B) (N := 5) hx hb hts hk4 t_B t_B_ok n_B hown hK hP hD hS 0 rfl rfl 2 (by decide) hk6 (fun _ h9 => h9) rfl hin rfl (by decide +kernel) rfl rfl (Nat.le_of_ble_eq_true rfl) d_B_init_25 (fun H locs hP hD hS => ?_)
  have hP : va_P (dC, dI) classes [(bq, .inr (0, [.ref n1, .ref n2, .ref n3, .null, .int 0])), (n1, .inl (cI, 10, .inl (fun _ => 0))), (n2, .inl (cI, 10, .inl (fun _ => 0))), (n3, .inl (cI, 10, .inl (fun _ => 0)))] H := hP
  have hD : va_D A [(bq, .inr (0, [.ref n1, .ref n2, .ref n3, .null, .int 0])), (n1, .inl (cI, 10, .inl (fun _ => 0))), (n2, .inl (cI, 10, .inl (fun _ => 0))), (n3, .inl (cI, 10, .inl (fun _ => 0)))] := hD
  refine lv_aload_n hx hb d_B_init_28 rfl (lv_at hl 0 rfl) ?_
  refine lv_bipush (v := 10) hx hb d_B_init_29 (by decide) ?_
  refine va_newa (atype := .int) (ty := .int) hx hb hk2 rfl hK hP hD hS hA (N' := 10) (a0 := (10, .inl (fun _ => 0))) (fun _ => rfl) (by decide) (by decide) (by decide) (Nat.le_of_ble_eq_true rfl) (Nat.le_of_ble_eq_true rfl) d_B_init_31 (fun n4 cA H hK9 hP hD hS => ?_)
  have hcA : cI = cA := cA_eq hK9 0 1 rfl rfl (fun _ => Iff.rfl)
  subst hcA
  clear hK9
  have hP : va_P (dC, dI) classes [(bq, .inr (0, [.ref n1, .ref n2, .ref n3, .null, .int 0])), (n1, .inl (cI, 10, .inl (fun _ => 0))), (n2, .inl (cI, 10, .inl (fun _ => 0))), (n3, .inl (cI, 10, .inl (fun _ => 0))), (n4, .inl (cI, 10, .inl (fun _ => 0)))] H := hP
  have hD : va_D A [(bq, .inr (0, [.ref n1, .ref n2, .ref n3, .null, .int 0])), (n1, .inl (cI, 10, .inl (fun _ => 0))), (n2, .inl (cI, 10, .inl (fun _ => 0))), (n3, .inl (cI, 10, .inl (fun _ => 0))), (n4, .inl (cI, 10, .inl (fun _ => 0)))] := hD
  refine W.widen (k := 4) (n := 40) (Nat.le_of_ble_eq_true rfl) (Nat.le_of_ble_eq_true rfl) ?_
  refine va_putF (D := (dC, dI)) (ci := 0) (v := .ref n4) (ty := .array .int) (C := R_B) (T := F_B) (N := 5) hx hb hts hk4 t_B t_B_ok n_B hown hK hP hD hS 0 rfl rfl 3 (by decide) hk7 (fun _ h9 => h9) rfl hin rfl (by decide +kernel) rfl rfl (Nat.le_of_ble_eq_true rfl) d_B_init_33 (fun H locs hP hD hS => ?_)
  have hP : va_P (dC, dI) classes [(bq, .inr (0, [.ref n1, .ref n2, .ref n3, .ref n4, .int 0])), (n1, .inl (cI, 10, .inl (fun _ => 0))), (n2, .inl (cI, 10, .inl (fun _ => 0))), (n3, .inl (cI, 10, .inl (fun _ => 0))), (n4, .inl (cI, 10, .inl (fun _ => 0)))] H := hP
  have hD : va_D A [(bq, .inr (0, [.ref n1, .ref n2, .ref n3, .ref n4, .int 0])), (n1, .inl (cI, 10, .inl (fun _ => 0))), (n2, .inl (cI, 10, .inl (fun _ => 0))), (n3, .inl (cI, 10, .inl (fun _ => 0))), (n4, .inl (cI, 10, .inl (fun _ => 0)))] := hD
  exact W.vret hx hb hr (fun t ht hW => ⟨⟨(n1, n2, n3, n4), rfl, trivial, by rw [ht]; exact hP, va_K.moved hW.alike hK, hD⟩, hS.F ht⟩) hS.2.2 d_B_init_36

def w_U_init : List Cond := .code y_U_init b_U_init 1 none :: W0
theorem q_U_init : y_U_init.cls = R_U ∧ y_U_init.cls ≠ "java/lang/invoke/MethodHandle" ∧ y_U_init.cls ≠ "java/lang/invoke/VarHandle" ∧ (parseMethodDescriptor y_U_init.desc).map (fun d => d.parameters.length) = some 0 := by decide +kernel
set_option maxHeartbeats 4000000 in
set_option maxRecDepth 100000 in
theorem c_U_init (l : Launch) (dC : Nat → ClassId) (dI : Nat → Nat → Nat) (cI : ClassId) (uq : Nat) (sz : Nat) : Met l y_U_init w_U_init ({ frames := 1, cells := 1, slots := 10, locals := 24 } : Room) (va_Pc [.ref uq] (fun U => U.heap.size = sz ∧ va_P (dC, dI) classes [(uq, .inr (1, [.null, .int 0]))] U.heap ∧ va_K (dC, dI) classes [(cI, .int)] U ∧ va_D (fun _ => True) [(uq, .inr (1, [.null, .int 0]))] ∧ nw U)) (va_Qv (fun _ : Nat => True) (fun u t => va_P (dC, dI) classes [(uq, .inr (1, [.ref u, .int 0])), (u, .inl (cI, 10, .inl (fun _ => 0)))] t.heap ∧ va_K (dC, dI) classes [(cI, .int)] t ∧ va_D (va_A [(uq, .inr (1, [.null, .int 0]))] sz) [(uq, .inr (1, [.ref u, .int 0])), (u, .inl (cI, 10, .inl (fun _ => 0)))]) (va_A [(uq, .inr (1, [.null, .int 0]))] sz)) 1 10 (va_A [(uq, .inr (1, [.null, .int 0]))] sz) := by
  refine Met.ofW (cc := b_U_init) (maxL := 1) (ret := none) (by decide) rfl ?_
  intro p e s m args below meth c s₁ B hml hv
  obtain ⟨rfl, hsz, hP, hK, hD0, hN⟩ := hv
  have hx := B.exec
  have hb := B.bytes
  have hr := B.returns
  have hts := atoms_spec (ws := w_U_init) B.pre
  have hown : s.vm.findClass R_U = some m.cls := findClass_of_methodNamed B.named
  have hin : meth.name = "<init>" := (name_of_methodNamed B.named B.method).1
  have hlocks := B.notSynchronized
  subst hsz
  have hD := hD0.self (sz := s.heap.size)
  generalize hAe : va_A [(uq, .inr (1, [.null, .int 0]))] s.heap.size = A at hD ⊢
  have hA : ∀ q : Nat, s.heap.size ≤ q → A q := fun q h => by rw [← hAe]; exact Or.inr h
  have hS : va_S A s.heap s.heap [] := va_S.rf
  have hk0 := hts (.methodLink R_U 3 objectInit) (List.mem_cons_of_mem _ (w0 80 rfl))
  have hk1 := hts (.instanceMethod objectInit) (List.mem_cons_of_mem _ (w0 50 rfl))
  have hk2 := hts (.arrayClass .int) (List.mem_cons_of_mem _ (w0 74 rfl))
  have hk3 := hts (.fieldLink R_U 9 "SurplusMatch$Uses" "ordersOfPiece" "[I") (List.mem_cons_of_mem _ (w0 81 rfl))
  have hk4 : ∀ w ∈ w_U, w ∈ w_U_init := fun w h => List.mem_cons_of_mem _ (i_U w h)
  have hl := lv_entry ([.ref uq]) (n := 1) (Nat.le_of_ble_eq_true rfl)
  rw [lg_entry_eq]
  generalize (lg_sl ([.ref uq]) ++ List.replicate (1 - (lg_sl ([.ref uq])).length) Slot.unset).toArray = ls at hl ⊢
  have hl : lv_has ls 1 [(0, .ref uq)] := hl
  refine lv_aload_n hx hb d_U_init_0 rfl (lv_at hl 0 rfl) ?_
  refine W.objInit hx hb hown hk0 hk1 (hts _ (List.mem_cons_of_mem _ (w0 51 rfl))) rfl (by rw [hml]; exact hl.1) rfl d_U_init_1 (Nat.le_of_ble_eq_true rfl) (Nat.le_of_ble_eq_true rfl) ?_
  refine W.eq (g2 := F0 m 4 ls []) rfl ?_
  refine lv_aload_n hx hb d_U_init_4 rfl (lv_at hl 0 rfl) ?_
  refine lv_bipush (v := 10) hx hb d_U_init_5 (by decide) ?_
  refine va_newa (atype := .int) (ty := .int) hx hb hk2 rfl hK hP hD hS hA (N' := 10) (a0 := (10, .inl (fun _ => 0))) (fun _ => rfl) (by decide) (by decide) (by decide) (Nat.le_of_ble_eq_true rfl) (Nat.le_of_ble_eq_true rfl) d_U_init_7 (fun n1 cA H hK9 hP hD hS => ?_)
  have hcA : cI = cA := cA_eq hK9 0 1 rfl rfl (fun _ => Iff.rfl)
  subst hcA
  clear hK9
  have hP : va_P (dC, dI) classes [(uq, .inr (1, [.null, .int 0])), (n1, .inl (cI, 10, .inl (fun _ => 0)))] H := hP
  have hD : va_D A [(uq, .inr (1, [.null, .int 0])), (n1, .inl (cI, 10, .inl (fun _ => 0)))] := hD
  refine W.widen (k := 1) (n := 10) (Nat.le_of_ble_eq_true rfl) (Nat.le_of_ble_eq_true rfl) ?_
  refine va_putF (D := (dC, dI)) (ci := 1) (v := .ref n1) (ty := .array .int) (C := R_U) (T := F_U) (N := 2) hx hb hts hk4 t_U t_U_ok n_U hown hK hP hD hS 0 rfl rfl 0 (by decide) hk3 (fun _ h9 => h9) rfl hin rfl (by decide +kernel) rfl rfl (Nat.le_of_ble_eq_true rfl) d_U_init_9 (fun H locs hP hD hS => ?_)
  have hP : va_P (dC, dI) classes [(uq, .inr (1, [.ref n1, .int 0])), (n1, .inl (cI, 10, .inl (fun _ => 0)))] H := hP
  have hD : va_D A [(uq, .inr (1, [.ref n1, .int 0])), (n1, .inl (cI, 10, .inl (fun _ => 0)))] := hD
  exact W.vret hx hb hr (fun t ht hW => ⟨⟨n1, rfl, trivial, by rw [ht]; exact hP, va_K.moved hW.alike hK, hD⟩, hS.F ht⟩) hS.2.2 d_U_init_12

def w_H_init : List Cond := .code y_H_init b_H_init 2 none :: W0
theorem q_H_init : y_H_init.cls = R_H ∧ y_H_init.cls ≠ "java/lang/invoke/MethodHandle" ∧ y_H_init.cls ≠ "java/lang/invoke/VarHandle" ∧ (parseMethodDescriptor y_H_init.desc).map (fun d => d.parameters.length) = some 0 := by decide +kernel
set_option maxHeartbeats 4000000 in
set_option maxRecDepth 100000 in
theorem c_H_init (l : Launch) (dC : Nat → ClassId) (dI : Nat → Nat → Nat) (cI : ClassId) (hq : Nat) (sz : Nat) : Met l y_H_init w_H_init ({ frames := 1, cells := 2, slots := 20, locals := 24 } : Room) (va_Pc [.ref hq] (fun U => U.heap.size = sz ∧ va_P (dC, dI) classes [(hq, .inr (2, [.null, .null, .int 0]))] U.heap ∧ va_K (dC, dI) classes [(cI, .int)] U ∧ va_D (fun _ => True) [(hq, .inr (2, [.null, .null, .int 0]))] ∧ nw U)) (va_Qv (fun _ : Nat × Nat => True) (fun u t => va_P (dC, dI) classes [(hq, .inr (2, [.ref u.1, .ref u.2, .int 0])), (u.1, .inl (cI, 10, .inl (upd (upd (upd (upd (upd (upd (upd (upd (upd (upd (fun _ => 0) (0 : Int32).toNatClampNeg (-1)) (1 : Int32).toNatClampNeg (-1)) (2 : Int32).toNatClampNeg (-1)) (3 : Int32).toNatClampNeg (-1)) (4 : Int32).toNatClampNeg (-1)) (5 : Int32).toNatClampNeg (-1)) (6 : Int32).toNatClampNeg (-1)) (7 : Int32).toNatClampNeg (-1)) (8 : Int32).toNatClampNeg (-1)) (9 : Int32).toNatClampNeg (-1)))), (u.2, .inl (cI, 10, .inl (fun _ => 0)))] t.heap ∧ va_K (dC, dI) classes [(cI, .int)] t ∧ va_D (va_A [(hq, .inr (2, [.null, .null, .int 0]))] sz) [(hq, .inr (2, [.ref u.1, .ref u.2, .int 0])), (u.1, .inl (cI, 10, .inl (upd (upd (upd (upd (upd (upd (upd (upd (upd (upd (fun _ => 0) (0 : Int32).toNatClampNeg (-1)) (1 : Int32).toNatClampNeg (-1)) (2 : Int32).toNatClampNeg (-1)) (3 : Int32).toNatClampNeg (-1)) (4 : Int32).toNatClampNeg (-1)) (5 : Int32).toNatClampNeg (-1)) (6 : Int32).toNatClampNeg (-1)) (7 : Int32).toNatClampNeg (-1)) (8 : Int32).toNatClampNeg (-1)) (9 : Int32).toNatClampNeg (-1)))), (u.2, .inl (cI, 10, .inl (fun _ => 0)))]) (va_A [(hq, .inr (2, [.null, .null, .int 0]))] sz)) 2 20 (va_A [(hq, .inr (2, [.null, .null, .int 0]))] sz) := by
  refine Met.ofW (cc := b_H_init) (maxL := 2) (ret := none) (by decide) rfl ?_
  intro p e s m args below meth c s₁ B hml hv
  obtain ⟨rfl, hsz, hP, hK, hD0, hN⟩ := hv
  have hx := B.exec
  have hb := B.bytes
  have hr := B.returns
  have hts := atoms_spec (ws := w_H_init) B.pre
  have hown : s.vm.findClass R_H = some m.cls := findClass_of_methodNamed B.named
  have hin : meth.name = "<init>" := (name_of_methodNamed B.named B.method).1
  have hlocks := B.notSynchronized
  subst hsz
  have hD := hD0.self (sz := s.heap.size)
  generalize hAe : va_A [(hq, .inr (2, [.null, .null, .int 0]))] s.heap.size = A at hD ⊢
  have hA : ∀ q : Nat, s.heap.size ≤ q → A q := fun q h => by rw [← hAe]; exact Or.inr h
  have hS : va_S A s.heap s.heap [] := va_S.rf
  have hk0 := hts (.methodLink R_H 3 objectInit) (List.mem_cons_of_mem _ (w0 93 rfl))
  have hk1 := hts (.instanceMethod objectInit) (List.mem_cons_of_mem _ (w0 50 rfl))
  have hk2 := hts (.arrayClass .int) (List.mem_cons_of_mem _ (w0 74 rfl))
  have hk3 := hts (.fieldLink R_H 9 "SurplusMatch$Holds" "orderOfPiece" "[I") (List.mem_cons_of_mem _ (w0 94 rfl))
  have hk4 : ∀ w ∈ w_H, w ∈ w_H_init := fun w h => List.mem_cons_of_mem _ (i_H w h)
  have hk5 := hts (.fieldLink R_H 15 "SurplusMatch$Holds" "lastDay" "[I") (List.mem_cons_of_mem _ (w0 95 rfl))
  have hl := lv_entry ([.ref hq]) (n := 2) (Nat.le_of_ble_eq_true rfl)
  rw [lg_entry_eq]
  generalize (lg_sl ([.ref hq]) ++ List.replicate (2 - (lg_sl ([.ref hq])).length) Slot.unset).toArray = ls at hl ⊢
  have hl : lv_has ls 2 [(0, .ref hq)] := hl
  refine lv_aload_n hx hb d_H_init_0 rfl (lv_at hl 0 rfl) ?_
  refine W.objInit hx hb hown hk0 hk1 (hts _ (List.mem_cons_of_mem _ (w0 51 rfl))) rfl (by rw [hml]; exact hl.1) rfl d_H_init_1 (Nat.le_of_ble_eq_true rfl) (Nat.le_of_ble_eq_true rfl) ?_
  refine W.eq (g2 := F0 m 4 ls []) rfl ?_
  refine lv_aload_n hx hb d_H_init_4 rfl (lv_at hl 0 rfl) ?_
  refine lv_bipush (v := 10) hx hb d_H_init_5 (by decide) ?_
  refine va_newa (atype := .int) (ty := .int) hx hb hk2 rfl hK hP hD hS hA (N' := 10) (a0 := (10, .inl (fun _ => 0))) (fun _ => rfl) (by decide) (by decide) (by decide) (Nat.le_of_ble_eq_true rfl) (Nat.le_of_ble_eq_true rfl) d_H_init_7 (fun n1 cA H hK9 hP hD hS => ?_)
  have hcA : cI = cA := cA_eq hK9 0 1 rfl rfl (fun _ => Iff.rfl)
  subst hcA
  clear hK9
  have hP : va_P (dC, dI) classes [(hq, .inr (2, [.null, .null, .int 0])), (n1, .inl (cI, 10, .inl (fun _ => 0)))] H := hP
  have hD : va_D A [(hq, .inr (2, [.null, .null, .int 0])), (n1, .inl (cI, 10, .inl (fun _ => 0)))] := hD
  refine W.widen (k := 1) (n := 10) (Nat.le_of_ble_eq_true rfl) (Nat.le_of_ble_eq_true rfl) ?_
  refine va_putF (D := (dC, dI)) (ci := 2) (v := .ref n1) (ty := .array .int) (C := R_H) (T := F_H) (N := 3) hx hb hts hk4 t_H t_H_ok n_H hown hK hP hD hS 0 rfl rfl 0 (by decide) hk3 (fun _ h9 => h9) rfl hin rfl (by decide +kernel) rfl rfl (Nat.le_of_ble_eq_true rfl) d_H_init_9 (fun H locs hP hD hS => ?_)
  have hP : va_P (dC, dI) classes [(hq, .inr (2, [.ref n1, .null, .int 0])), (n1, .inl (cI, 10, .inl (fun _ => 0)))] H := hP
  have hD : va_D A [(hq, .inr (2, [.ref n1, .null, .int 0])), (n1, .inl (cI, 10, .inl (fun _ => 0)))] := hD
  refine lv_aload_n hx hb d_H_init_12 rfl (lv_at hl 0 rfl) ?_
  refine lv_bipush (v := 10) hx hb d_H_init_13 (by decide) ?_
  refine va_newa (atype := .int) (ty := .int) hx hb hk2 rfl hK hP hD hS hA (N' := 10) (a0 := (10, .inl (fun _ => 0))) (fun _ => rfl) (by decide) (by decide) (by decide) (Nat.le_of_ble_eq_true rfl) (Nat.le_of_ble_eq_true rfl) d_H_init_15 (fun n2 cA H hK9 hP hD hS => ?_)
  have hcA : cI = cA := cA_eq hK9 0 1 rfl rfl (fun _ => Iff.rfl)
  subst hcA
  clear hK9
  have hP : va_P (dC, dI) classes [(hq, .inr (2, [.ref n1, .null, .int 0])), (n1, .inl (cI, 10, .inl (fun _ => 0))), (n2, .inl (cI, 10, .inl (fun _ => 0)))] H := hP
  have hD : va_D A [(hq, .inr (2, [.ref n1, .null, .int 0])), (n1, .inl (cI, 10, .inl (fun _ => 0))), (n2, .inl (cI, 10, .inl (fun _ => 0)))] := hD
  refine W.widen (k := 2) (n := 20) (Nat.le_of_ble_eq_true rfl) (Nat.le_of_ble_eq_true rfl) ?_
  refine va_putF (D := (dC, dI)) (ci := 2) (v := .ref n2) (ty := .array .int) (C := R_H) (T := F_H) (N := 3) hx hb hts hk4 t_H t_H_ok n_H hown hK hP hD hS 0 rfl rfl 1 (by decide) hk5 (fun _ h9 => h9) rfl hin rfl (by decide +kernel) rfl rfl (Nat.le_of_ble_eq_true rfl) d_H_init_17 (fun H locs hP hD hS => ?_)
  have hP : va_P (dC, dI) classes [(hq, .inr (2, [.ref n1, .ref n2, .int 0])), (n1, .inl (cI, 10, .inl (fun _ => 0))), (n2, .inl (cI, 10, .inl (fun _ => 0)))] H := hP
  have hD : va_D A [(hq, .inr (2, [.ref n1, .ref n2, .int 0])), (n1, .inl (cI, 10, .inl (fun _ => 0))), (n2, .inl (cI, 10, .inl (fun _ => 0)))] := hD
  refine lv_iconst (v := 0) hx hb d_H_init_20 (by decide) ?_
  refine lv_istore_n (lv' := [(1, .int 0), (0, .ref hq)]) hx hb d_H_init_21 rfl hl (by decide) rfl (fun ls hl => ?_)
  refine lv_iload_n hx hb d_H_init_22 rfl (lv_at hl 0 rfl) ?_
  refine lv_bipush (v := 10) hx hb d_H_init_23 (by decide) ?_
  refine lv_icmp_ge (tgt := 41) hx hb d_H_init_25 (by decide) (fun c9 => absurd c9 (by decide)) (fun c9 => ?_)
  clear c9
  refine lv_aload_n hx hb d_H_init_28 rfl (lv_at hl 1 rfl) ?_
  refine va_get (D := (dC, dI)) (ci := 2) (v := .ref n1) (C := R_H) (T := F_H) (N := 3) hx hb hts hk4 hown hK hP 0 rfl rfl 0 (by decide) hk3 (fun _ h9 => h9) rfl d_H_init_29 ?_
  refine lv_iload_n hx hb d_H_init_32 rfl (lv_at hl 0 rfl) ?_
  refine lv_iconst (v := (-1)) hx hb d_H_init_33 (by decide) ?_
  have h9 : vp_in (0 : Int32) 10 := by unfold vp_in; decide
  refine va_iast hx hb hK hP hD hS 1 0 rfl rfl h9 d_H_init_34 (fun H locs hP hD hS => ?_)
  have hP : va_P (dC, dI) classes [(hq, .inr (2, [.ref n1, .ref n2, .int 0])), (n1, .inl (cI, 10, .inl (upd (fun _ => 0) (0 : Int32).toNatClampNeg (-1)))), (n2, .inl (cI, 10, .inl (fun _ => 0)))] H := hP
  have hD : va_D A [(hq, .inr (2, [.ref n1, .ref n2, .int 0])), (n1, .inl (cI, 10, .inl (upd (fun _ => 0) (0 : Int32).toNatClampNeg (-1)))), (n2, .inl (cI, 10, .inl (fun _ => 0)))] := hD
  refine lv_iinc (v := 1) (lv' := [(1, .int 1), (0, .ref hq)]) hx hb d_H_init_35 hl (k := 0) rfl (by decide) (by decide) rfl (fun ls hl => ?_)
  refine lv_goto (tgt := 22) hx hb d_H_init_38 (by decide) ?_
  refine lv_iload_n hx hb d_H_init_22 rfl (lv_at hl 0 rfl) ?_
  refine lv_bipush (v := 10) hx hb d_H_init_23 (by decide) ?_
  refine lv_icmp_ge (tgt := 41) hx hb d_H_init_25 (by decide) (fun c9 => absurd c9 (by decide)) (fun c9 => ?_)
  clear c9
  refine lv_aload_n hx hb d_H_init_28 rfl (lv_at hl 1 rfl) ?_
  refine va_get (D := (dC, dI)) (ci := 2) (v := .ref n1) (C := R_H) (T := F_H) (N := 3) hx hb hts hk4 hown hK hP 0 rfl rfl 0 (by decide) hk3 (fun _ h9 => h9) rfl d_H_init_29 ?_
  refine lv_iload_n hx hb d_H_init_32 rfl (lv_at hl 0 rfl) ?_
  refine lv_iconst (v := (-1)) hx hb d_H_init_33 (by decide) ?_
  have h9 : vp_in (1 : Int32) 10 := by unfold vp_in; decide
  refine va_iast hx hb hK hP hD hS 1 0 rfl rfl h9 d_H_init_34 (fun H locs hP hD hS => ?_)
  have hP : va_P (dC, dI) classes [(hq, .inr (2, [.ref n1, .ref n2, .int 0])), (n1, .inl (cI, 10, .inl (upd (upd (fun _ => 0) (0 : Int32).toNatClampNeg (-1)) (1 : Int32).toNatClampNeg (-1)))), (n2, .inl (cI, 10, .inl (fun _ => 0)))] H := hP
  have hD : va_D A [(hq, .inr (2, [.ref n1, .ref n2, .int 0])), (n1, .inl (cI, 10, .inl (upd (upd (fun _ => 0) (0 : Int32).toNatClampNeg (-1)) (1 : Int32).toNatClampNeg (-1)))), (n2, .inl (cI, 10, .inl (fun _ => 0)))] := hD
  refine lv_iinc (v := 2) (lv' := [(1, .int 2), (0, .ref hq)]) hx hb d_H_init_35 hl (k := 0) rfl (by decide) (by decide) rfl (fun ls hl => ?_)
  refine lv_goto (tgt := 22) hx hb d_H_init_38 (by decide) ?_
  refine lv_iload_n hx hb d_H_init_22 rfl (lv_at hl 0 rfl) ?_
  refine lv_bipush (v := 10) hx hb d_H_init_23 (by decide) ?_
  refine lv_icmp_ge (tgt := 41) hx hb d_H_init_25 (by decide) (fun c9 => absurd c9 (by decide)) (fun c9 => ?_)
  clear c9
  refine lv_aload_n hx hb d_H_init_28 rfl (lv_at hl 1 rfl) ?_
  refine va_get (D := (dC, dI)) (ci := 2) (v := .ref n1) (C := R_H) (T := F_H) (N := 3) hx hb hts hk4 hown hK hP 0 rfl rfl 0 (by decide) hk3 (fun _ h9 => h9) rfl d_H_init_29 ?_
  refine lv_iload_n hx hb d_H_init_32 rfl (lv_at hl 0 rfl) ?_
  refine lv_iconst (v := (-1)) hx hb d_H_init_33 (by decide) ?_
  have h9 : vp_in (2 : Int32) 10 := by unfold vp_in; decide
  refine va_iast hx hb hK hP hD hS 1 0 rfl rfl h9 d_H_init_34 (fun H locs hP hD hS => ?_)
  have hP : va_P (dC, dI) classes [(hq, .inr (2, [.ref n1, .ref n2, .int 0])), (n1, .inl (cI, 10, .inl (upd (upd (upd (fun _ => 0) (0 : Int32).toNatClampNeg (-1)) (1 : Int32).toNatClampNeg (-1)) (2 : Int32).toNatClampNeg (-1)))), (n2, .inl (cI, 10, .inl (fun _ => 0)))] H := hP
  have hD : va_D A [(hq, .inr (2, [.ref n1, .ref n2, .int 0])), (n1, .inl (cI, 10, .inl (upd (upd (upd (fun _ => 0) (0 : Int32).toNatClampNeg (-1)) (1 : Int32).toNatClampNeg (-1)) (2 : Int32).toNatClampNeg (-1)))), (n2, .inl (cI, 10, .inl (fun _ => 0)))] := hD
  refine lv_iinc (v := 3) (lv' := [(1, .int 3), (0, .ref hq)]) hx hb d_H_init_35 hl (k := 0) rfl (by decide) (by decide) rfl (fun ls hl => ?_)
  refine lv_goto (tgt := 22) hx hb d_H_init_38 (by decide) ?_
  refine lv_iload_n hx hb d_H_init_22 rfl (lv_at hl 0 rfl) ?_
  refine lv_bipush (v := 10) hx hb d_H_init_23 (by decide) ?_
  refine lv_icmp_ge (tgt := 41) hx hb d_H_init_25 (by decide) (fun c9 => absurd c9 (by decide)) (fun c9 => ?_)
  clear c9
  refine lv_aload_n hx hb d_H_init_28 rfl (lv_at hl 1 rfl) ?_
  refine va_get (D := (dC, dI)) (ci := 2) (v := .ref n1) (C := R_H) (T := F_H) (N := 3) hx hb hts hk4 hown hK hP 0 rfl rfl 0 (by decide) hk3 (fun _ h9 => h9) rfl d_H_init_29 ?_
  refine lv_iload_n hx hb d_H_init_32 rfl (lv_at hl 0 rfl) ?_
  refine lv_iconst (v := (-1)) hx hb d_H_init_33 (by decide) ?_
  have h9 : vp_in (3 : Int32) 10 := by unfold vp_in; decide
  refine va_iast hx hb hK hP hD hS 1 0 rfl rfl h9 d_H_init_34 (fun H locs hP hD hS => ?_)
  have hP : va_P (dC, dI) classes [(hq, .inr (2, [.ref n1, .ref n2, .int 0])), (n1, .inl (cI, 10, .inl (upd (upd (upd (upd (fun _ => 0) (0 : Int32).toNatClampNeg (-1)) (1 : Int32).toNatClampNeg (-1)) (2 : Int32).toNatClampNeg (-1)) (3 : Int32).toNatClampNeg (-1)))), (n2, .inl (cI, 10, .inl (fun _ => 0)))] H := hP
  have hD : va_D A [(hq, .inr (2, [.ref n1, .ref n2, .int 0])), (n1, .inl (cI, 10, .inl (upd (upd (upd (upd (fun _ => 0) (0 : Int32).toNatClampNeg (-1)) (1 : Int32).toNatClampNeg (-1)) (2 : Int32).toNatClampNeg (-1)) (3 : Int32).toNatClampNeg (-1)))), (n2, .inl (cI, 10, .inl (fun _ => 0)))] := hD
  refine lv_iinc (v := 4) (lv' := [(1, .int 4), (0, .ref hq)]) hx hb d_H_init_35 hl (k := 0) rfl (by decide) (by decide) rfl (fun ls hl => ?_)
  refine lv_goto (tgt := 22) hx hb d_H_init_38 (by decide) ?_
  refine lv_iload_n hx hb d_H_init_22 rfl (lv_at hl 0 rfl) ?_
  refine lv_bipush (v := 10) hx hb d_H_init_23 (by decide) ?_
  refine lv_icmp_ge (tgt := 41) hx hb d_H_init_25 (by decide) (fun c9 => absurd c9 (by decide)) (fun c9 => ?_)
  clear c9
  refine lv_aload_n hx hb d_H_init_28 rfl (lv_at hl 1 rfl) ?_
  refine va_get (D := (dC, dI)) (ci := 2) (v := .ref n1) (C := R_H) (T := F_H) (N := 3) hx hb hts hk4 hown hK hP 0 rfl rfl 0 (by decide) hk3 (fun _ h9 => h9) rfl d_H_init_29 ?_
  refine lv_iload_n hx hb d_H_init_32 rfl (lv_at hl 0 rfl) ?_
  refine lv_iconst (v := (-1)) hx hb d_H_init_33 (by decide) ?_
  have h9 : vp_in (4 : Int32) 10 := by unfold vp_in; decide
  refine va_iast hx hb hK hP hD hS 1 0 rfl rfl h9 d_H_init_34 (fun H locs hP hD hS => ?_)
  have hP : va_P (dC, dI) classes [(hq, .inr (2, [.ref n1, .ref n2, .int 0])), (n1, .inl (cI, 10, .inl (upd (upd (upd (upd (upd (fun _ => 0) (0 : Int32).toNatClampNeg (-1)) (1 : Int32).toNatClampNeg (-1)) (2 : Int32).toNatClampNeg (-1)) (3 : Int32).toNatClampNeg (-1)) (4 : Int32).toNatClampNeg (-1)))), (n2, .inl (cI, 10, .inl (fun _ => 0)))] H := hP
  have hD : va_D A [(hq, .inr (2, [.ref n1, .ref n2, .int 0])), (n1, .inl (cI, 10, .inl (upd (upd (upd (upd (upd (fun _ => 0) (0 : Int32).toNatClampNeg (-1)) (1 : Int32).toNatClampNeg (-1)) (2 : Int32).toNatClampNeg (-1)) (3 : Int32).toNatClampNeg (-1)) (4 : Int32).toNatClampNeg (-1)))), (n2, .inl (cI, 10, .inl (fun _ => 0)))] := hD
  refine lv_iinc (v := 5) (lv' := [(1, .int 5), (0, .ref hq)]) hx hb d_H_init_35 hl (k := 0) rfl (by decide) (by decide) rfl (fun ls hl => ?_)
  refine lv_goto (tgt := 22) hx hb d_H_init_38 (by decide) ?_
  refine lv_iload_n hx hb d_H_init_22 rfl (lv_at hl 0 rfl) ?_
  refine lv_bipush (v := 10) hx hb d_H_init_23 (by decide) ?_
  refine lv_icmp_ge (tgt := 41) hx hb d_H_init_25 (by decide) (fun c9 => absurd c9 (by decide)) (fun c9 => ?_)
  clear c9
  refine lv_aload_n hx hb d_H_init_28 rfl (lv_at hl 1 rfl) ?_
  refine va_get (D := (dC, dI)) (ci := 2) (v := .ref n1) (C := R_H) (T := F_H) (N := 3) hx hb hts hk4 hown hK hP 0 rfl rfl 0 (by decide) hk3 (fun _ h9 => h9) rfl d_H_init_29 ?_
  refine lv_iload_n hx hb d_H_init_32 rfl (lv_at hl 0 rfl) ?_
  refine lv_iconst (v := (-1)) hx hb d_H_init_33 (by decide) ?_
  have h9 : vp_in (5 : Int32) 10 := by unfold vp_in; decide
  refine va_iast hx hb hK hP hD hS 1 0 rfl rfl h9 d_H_init_34 (fun H locs hP hD hS => ?_)
  have hP : va_P (dC, dI) classes [(hq, .inr (2, [.ref n1, .ref n2, .int 0])), (n1, .inl (cI, 10, .inl (upd (upd (upd (upd (upd (upd (fun _ => 0) (0 : Int32).toNatClampNeg (-1)) (1 : Int32).toNatClampNeg (-1)) (2 : Int32).toNatClampNeg (-1)) (3 : Int32).toNatClampNeg (-1)) (4 : Int32).toNatClampNeg (-1)) (5 : Int32).toNatClampNeg (-1)))), (n2, .inl (cI, 10, .inl (fun _ => 0)))] H := hP
  have hD : va_D A [(hq, .inr (2, [.ref n1, .ref n2, .int 0])), (n1, .inl (cI, 10, .inl (upd (upd (upd (upd (upd (upd (fun _ => 0) (0 : Int32).toNatClampNeg (-1)) (1 : Int32).toNatClampNeg (-1)) (2 : Int32).toNatClampNeg (-1)) (3 : Int32).toNatClampNeg (-1)) (4 : Int32).toNatClampNeg (-1)) (5 : Int32).toNatClampNeg (-1)))), (n2, .inl (cI, 10, .inl (fun _ => 0)))] := hD
  refine lv_iinc (v := 6) (lv' := [(1, .int 6), (0, .ref hq)]) hx hb d_H_init_35 hl (k := 0) rfl (by decide) (by decide) rfl (fun ls hl => ?_)
  refine lv_goto (tgt := 22) hx hb d_H_init_38 (by decide) ?_
  refine lv_iload_n hx hb d_H_init_22 rfl (lv_at hl 0 rfl) ?_
  refine lv_bipush (v := 10) hx hb d_H_init_23 (by decide) ?_
  refine lv_icmp_ge (tgt := 41) hx hb d_H_init_25 (by decide) (fun c9 => absurd c9 (by decide)) (fun c9 => ?_)
  clear c9
  refine lv_aload_n hx hb d_H_init_28 rfl (lv_at hl 1 rfl) ?_
  refine va_get (D := (dC, dI)) (ci := 2) (v := .ref n1) (C := R_H) (T := F_H) (N := 3) hx hb hts hk4 hown hK hP 0 rfl rfl 0 (by decide) hk3 (fun _ h9 => h9) rfl d_H_init_29 ?_
  refine lv_iload_n hx hb d_H_init_32 rfl (lv_at hl 0 rfl) ?_
  refine lv_iconst (v := (-1)) hx hb d_H_init_33 (by decide) ?_
  have h9 : vp_in (6 : Int32) 10 := by unfold vp_in; decide
  refine va_iast hx hb hK hP hD hS 1 0 rfl rfl h9 d_H_init_34 (fun H locs hP hD hS => ?_)
  have hP : va_P (dC, dI) classes [(hq, .inr (2, [.ref n1, .ref n2, .int 0])), (n1, .inl (cI, 10, .inl (upd (upd (upd (upd (upd (upd (upd (fun _ => 0) (0 : Int32).toNatClampNeg (-1)) (1 : Int32).toNatClampNeg (-1)) (2 : Int32).toNatClampNeg (-1)) (3 : Int32).toNatClampNeg (-1)) (4 : Int32).toNatClampNeg (-1)) (5 : Int32).toNatClampNeg (-1)) (6 : Int32).toNatClampNeg (-1)))), (n2, .inl (cI, 10, .inl (fun _ => 0)))] H := hP
  have hD : va_D A [(hq, .inr (2, [.ref n1, .ref n2, .int 0])), (n1, .inl (cI, 10, .inl (upd (upd (upd (upd (upd (upd (upd (fun _ => 0) (0 : Int32).toNatClampNeg (-1)) (1 : Int32).toNatClampNeg (-1)) (2 : Int32).toNatClampNeg (-1)) (3 : Int32).toNatClampNeg (-1)) (4 : Int32).toNatClampNeg (-1)) (5 : Int32).toNatClampNeg (-1)) (6 : Int32).toNatClampNeg (-1)))), (n2, .inl (cI, 10, .inl (fun _ => 0)))] := hD
  refine lv_iinc (v := 7) (lv' := [(1, .int 7), (0, .ref hq)]) hx hb d_H_init_35 hl (k := 0) rfl (by decide) (by decide) rfl (fun ls hl => ?_)
  refine lv_goto (tgt := 22) hx hb d_H_init_38 (by decide) ?_
  refine lv_iload_n hx hb d_H_init_22 rfl (lv_at hl 0 rfl) ?_
  refine lv_bipush (v := 10) hx hb d_H_init_23 (by decide) ?_
  refine lv_icmp_ge (tgt := 41) hx hb d_H_init_25 (by decide) (fun c9 => absurd c9 (by decide)) (fun c9 => ?_)
  clear c9
  refine lv_aload_n hx hb d_H_init_28 rfl (lv_at hl 1 rfl) ?_
  refine va_get (D := (dC, dI)) (ci := 2) (v := .ref n1) (C := R_H) (T := F_H) (N := 3) hx hb hts hk4 hown hK hP 0 rfl rfl 0 (by decide) hk3 (fun _ h9 => h9) rfl d_H_init_29 ?_
  refine lv_iload_n hx hb d_H_init_32 rfl (lv_at hl 0 rfl) ?_
  refine lv_iconst (v := (-1)) hx hb d_H_init_33 (by decide) ?_
  have h9 : vp_in (7 : Int32) 10 := by unfold vp_in; decide
  refine va_iast hx hb hK hP hD hS 1 0 rfl rfl h9 d_H_init_34 (fun H locs hP hD hS => ?_)
  have hP : va_P (dC, dI) classes [(hq, .inr (2, [.ref n1, .ref n2, .int 0])), (n1, .inl (cI, 10, .inl (upd (upd (upd (upd (upd (upd (upd (upd (fun _ => 0) (0 : Int32).toNatClampNeg (-1)) (1 : Int32).toNatClampNeg (-1)) (2 : Int32).toNatClampNeg (-1)) (3 : Int32).toNatClampNeg (-1)) (4 : Int32).toNatClampNeg (-1)) (5 : Int32).toNatClampNeg (-1)) (6 : Int32).toNatClampNeg (-1)) (7 : Int32).toNatClampNeg (-1)))), (n2, .inl (cI, 10, .inl (fun _ => 0)))] H := hP
  have hD : va_D A [(hq, .inr (2, [.ref n1, .ref n2, .int 0])), (n1, .inl (cI, 10, .inl (upd (upd (upd (upd (upd (upd (upd (upd (fun _ => 0) (0 : Int32).toNatClampNeg (-1)) (1 : Int32).toNatClampNeg (-1)) (2 : Int32).toNatClampNeg (-1)) (3 : Int32).toNatClampNeg (-1)) (4 : Int32).toNatClampNeg (-1)) (5 : Int32).toNatClampNeg (-1)) (6 : Int32).toNatClampNeg (-1)) (7 : Int32).toNatClampNeg (-1)))), (n2, .inl (cI, 10, .inl (fun _ => 0)))] := hD
  refine lv_iinc (v := 8) (lv' := [(1, .int 8), (0, .ref hq)]) hx hb d_H_init_35 hl (k := 0) rfl (by decide) (by decide) rfl (fun ls hl => ?_)
  refine lv_goto (tgt := 22) hx hb d_H_init_38 (by decide) ?_
  refine lv_iload_n hx hb d_H_init_22 rfl (lv_at hl 0 rfl) ?_
  refine lv_bipush (v := 10) hx hb d_H_init_23 (by decide) ?_
  refine lv_icmp_ge (tgt := 41) hx hb d_H_init_25 (by decide) (fun c9 => absurd c9 (by decide)) (fun c9 => ?_)
  clear c9
  refine lv_aload_n hx hb d_H_init_28 rfl (lv_at hl 1 rfl) ?_
  refine va_get (D := (dC, dI)) (ci := 2) (v := .ref n1) (C := R_H) (T := F_H) (N := 3) hx hb hts hk4 hown hK hP 0 rfl rfl 0 (by decide) hk3 (fun _ h9 => h9) rfl d_H_init_29 ?_
  refine lv_iload_n hx hb d_H_init_32 rfl (lv_at hl 0 rfl) ?_
  refine lv_iconst (v := (-1)) hx hb d_H_init_33 (by decide) ?_
  have h9 : vp_in (8 : Int32) 10 := by unfold vp_in; decide
  refine va_iast hx hb hK hP hD hS 1 0 rfl rfl h9 d_H_init_34 (fun H locs hP hD hS => ?_)
  have hP : va_P (dC, dI) classes [(hq, .inr (2, [.ref n1, .ref n2, .int 0])), (n1, .inl (cI, 10, .inl (upd (upd (upd (upd (upd (upd (upd (upd (upd (fun _ => 0) (0 : Int32).toNatClampNeg (-1)) (1 : Int32).toNatClampNeg (-1)) (2 : Int32).toNatClampNeg (-1)) (3 : Int32).toNatClampNeg (-1)) (4 : Int32).toNatClampNeg (-1)) (5 : Int32).toNatClampNeg (-1)) (6 : Int32).toNatClampNeg (-1)) (7 : Int32).toNatClampNeg (-1)) (8 : Int32).toNatClampNeg (-1)))), (n2, .inl (cI, 10, .inl (fun _ => 0)))] H := hP
  have hD : va_D A [(hq, .inr (2, [.ref n1, .ref n2, .int 0])), (n1, .inl (cI, 10, .inl (upd (upd (upd (upd (upd (upd (upd (upd (upd (fun _ => 0) (0 : Int32).toNatClampNeg (-1)) (1 : Int32).toNatClampNeg (-1)) (2 : Int32).toNatClampNeg (-1)) (3 : Int32).toNatClampNeg (-1)) (4 : Int32).toNatClampNeg (-1)) (5 : Int32).toNatClampNeg (-1)) (6 : Int32).toNatClampNeg (-1)) (7 : Int32).toNatClampNeg (-1)) (8 : Int32).toNatClampNeg (-1)))), (n2, .inl (cI, 10, .inl (fun _ => 0)))] := hD
  refine lv_iinc (v := 9) (lv' := [(1, .int 9), (0, .ref hq)]) hx hb d_H_init_35 hl (k := 0) rfl (by decide) (by decide) rfl (fun ls hl => ?_)
  refine lv_goto (tgt := 22) hx hb d_H_init_38 (by decide) ?_
  refine lv_iload_n hx hb d_H_init_22 rfl (lv_at hl 0 rfl) ?_
  refine lv_bipush (v := 10) hx hb d_H_init_23 (by decide) ?_
  refine lv_icmp_ge (tgt := 41) hx hb d_H_init_25 (by decide) (fun c9 => absurd c9 (by decide)) (fun c9 => ?_)
  clear c9
  refine lv_aload_n hx hb d_H_init_28 rfl (lv_at hl 1 rfl) ?_
  refine va_get (D := (dC, dI)) (ci := 2) (v := .ref n1) (C := R_H) (T := F_H) (N := 3) hx hb hts hk4 hown hK hP 0 rfl rfl 0 (by decide) hk3 (fun _ h9 => h9) rfl d_H_init_29 ?_
  refine lv_iload_n hx hb d_H_init_32 rfl (lv_at hl 0 rfl) ?_
  refine lv_iconst (v := (-1)) hx hb d_H_init_33 (by decide) ?_
  have h9 : vp_in (9 : Int32) 10 := by unfold vp_in; decide
  refine va_iast hx hb hK hP hD hS 1 0 rfl rfl h9 d_H_init_34 (fun H locs hP hD hS => ?_)
  have hP : va_P (dC, dI) classes [(hq, .inr (2, [.ref n1, .ref n2, .int 0])), (n1, .inl (cI, 10, .inl (upd (upd (upd (upd (upd (upd (upd (upd (upd (upd (fun _ => 0) (0 : Int32).toNatClampNeg (-1)) (1 : Int32).toNatClampNeg (-1)) (2 : Int32).toNatClampNeg (-1)) (3 : Int32).toNatClampNeg (-1)) (4 : Int32).toNatClampNeg (-1)) (5 : Int32).toNatClampNeg (-1)) (6 : Int32).toNatClampNeg (-1)) (7 : Int32).toNatClampNeg (-1)) (8 : Int32).toNatClampNeg (-1)) (9 : Int32).toNatClampNeg (-1)))), (n2, .inl (cI, 10, .inl (fun _ => 0)))] H := hP
  have hD : va_D A [(hq, .inr (2, [.ref n1, .ref n2, .int 0])), (n1, .inl (cI, 10, .inl (upd (upd (upd (upd (upd (upd (upd (upd (upd (upd (fun _ => 0) (0 : Int32).toNatClampNeg (-1)) (1 : Int32).toNatClampNeg (-1)) (2 : Int32).toNatClampNeg (-1)) (3 : Int32).toNatClampNeg (-1)) (4 : Int32).toNatClampNeg (-1)) (5 : Int32).toNatClampNeg (-1)) (6 : Int32).toNatClampNeg (-1)) (7 : Int32).toNatClampNeg (-1)) (8 : Int32).toNatClampNeg (-1)) (9 : Int32).toNatClampNeg (-1)))), (n2, .inl (cI, 10, .inl (fun _ => 0)))] := hD
  refine lv_iinc (v := 10) (lv' := [(1, .int 10), (0, .ref hq)]) hx hb d_H_init_35 hl (k := 0) rfl (by decide) (by decide) rfl (fun ls hl => ?_)
  refine lv_goto (tgt := 22) hx hb d_H_init_38 (by decide) ?_
  refine lv_iload_n hx hb d_H_init_22 rfl (lv_at hl 0 rfl) ?_
  refine lv_bipush (v := 10) hx hb d_H_init_23 (by decide) ?_
  refine lv_icmp_ge (tgt := 41) hx hb d_H_init_25 (by decide) (fun c9 => ?_) (fun c9 => absurd (by decide) c9)
  clear c9
  exact W.vret hx hb hr (fun t ht hW => ⟨⟨(n1, n2), rfl, trivial, by rw [ht]; exact hP, va_K.moved hW.alike hK, hD⟩, hS.F ht⟩) hS.2.2 d_H_init_41

def w_M_init : List Cond := .code y_M_init b_M_init 1 none :: W0
theorem q_M_init : y_M_init.cls = R_M ∧ y_M_init.cls ≠ "java/lang/invoke/MethodHandle" ∧ y_M_init.cls ≠ "java/lang/invoke/VarHandle" ∧ (parseMethodDescriptor y_M_init.desc).map (fun d => d.parameters.length) = some 0 := by decide +kernel
set_option maxHeartbeats 4000000 in
set_option maxRecDepth 100000 in
theorem c_M_init (l : Launch) (dC : Nat → ClassId) (dI : Nat → Nat → Nat) (cI : ClassId) (mq : Nat) (sz : Nat) : Met l y_M_init w_M_init ({ frames := 1, cells := 5, slots := 11394, locals := 24 } : Room) (va_Pc [.ref mq] (fun U => U.heap.size = sz ∧ va_P (dC, dI) classes [(mq, .inr (3, [.null, .null, .null, .null, .null, .int 0, .int 0, .int 0, .int 0, .int 0]))] U.heap ∧ va_K (dC, dI) classes [(cI, .int)] U ∧ va_D (fun _ => True) [(mq, .inr (3, [.null, .null, .null, .null, .null, .int 0, .int 0, .int 0, .int 0, .int 0]))] ∧ nw U)) (va_Qv (fun _ : Nat × Nat × Nat × Nat × Nat => True) (fun u t => va_P (dC, dI) classes [(mq, .inr (3, [.ref u.1, .ref u.2.1, .ref u.2.2.1, .ref u.2.2.2.1, .ref u.2.2.2.2, .int 0, .int 0, .int 0, .int 0, .int 0])), (u.1, .inl (cI, 100, .inl (fun _ => 0))), (u.2.1, .inl (cI, 11264, .inl (fun _ => 0))), (u.2.2.1, .inl (cI, 10, .inl (fun _ => 0))), (u.2.2.2.1, .inl (cI, 10, .inl (fun _ => 0))), (u.2.2.2.2, .inl (cI, 10, .inl (fun _ => 0)))] t.heap ∧ va_K (dC, dI) classes [(cI, .int)] t ∧ va_D (va_A [(mq, .inr (3, [.null, .null, .null, .null, .null, .int 0, .int 0, .int 0, .int 0, .int 0]))] sz) [(mq, .inr (3, [.ref u.1, .ref u.2.1, .ref u.2.2.1, .ref u.2.2.2.1, .ref u.2.2.2.2, .int 0, .int 0, .int 0, .int 0, .int 0])), (u.1, .inl (cI, 100, .inl (fun _ => 0))), (u.2.1, .inl (cI, 11264, .inl (fun _ => 0))), (u.2.2.1, .inl (cI, 10, .inl (fun _ => 0))), (u.2.2.2.1, .inl (cI, 10, .inl (fun _ => 0))), (u.2.2.2.2, .inl (cI, 10, .inl (fun _ => 0)))]) (va_A [(mq, .inr (3, [.null, .null, .null, .null, .null, .int 0, .int 0, .int 0, .int 0, .int 0]))] sz)) 5 11394 (va_A [(mq, .inr (3, [.null, .null, .null, .null, .null, .int 0, .int 0, .int 0, .int 0, .int 0]))] sz) := by
  refine Met.ofW (cc := b_M_init) (maxL := 1) (ret := none) (by decide) rfl ?_
  intro p e s m args below meth c s₁ B hml hv
  obtain ⟨rfl, hsz, hP, hK, hD0, hN⟩ := hv
  have hx := B.exec
  have hb := B.bytes
  have hr := B.returns
  have hts := atoms_spec (ws := w_M_init) B.pre
  have hown : s.vm.findClass R_M = some m.cls := findClass_of_methodNamed B.named
  have hin : meth.name = "<init>" := (name_of_methodNamed B.named B.method).1
  have hlocks := B.notSynchronized
  subst hsz
  have hD := hD0.self (sz := s.heap.size)
  generalize hAe : va_A [(mq, .inr (3, [.null, .null, .null, .null, .null, .int 0, .int 0, .int 0, .int 0, .int 0]))] s.heap.size = A at hD ⊢
  have hA : ∀ q : Nat, s.heap.size ≤ q → A q := fun q h => by rw [← hAe]; exact Or.inr h
  have hS : va_S A s.heap s.heap [] := va_S.rf
  have hk0 := hts (.methodLink R_M 3 objectInit) (List.mem_cons_of_mem _ (w0 109 rfl))
  have hk1 := hts (.instanceMethod objectInit) (List.mem_cons_of_mem _ (w0 50 rfl))
  have hk2 := hts (.arrayClass .int) (List.mem_cons_of_mem _ (w0 74 rfl))
  have hk3 := hts (.fieldLink R_M 9 "SurplusMatch$Matching" "gains" "[I") (List.mem_cons_of_mem _ (w0 110 rfl))
  have hk4 : ∀ w ∈ w_M, w ∈ w_M_init := fun w h => List.mem_cons_of_mem _ (i_M w h)
  have hk5 := hts (.fieldLink R_M 15 "SurplusMatch$Matching" "best" "[I") (List.mem_cons_of_mem _ (w0 111 rfl))
  have hk6 := hts (.fieldLink R_M 18 "SurplusMatch$Matching" "chosen" "[I") (List.mem_cons_of_mem _ (w0 112 rfl))
  have hk7 := hts (.fieldLink R_M 21 "SurplusMatch$Matching" "pieceDuals" "[I") (List.mem_cons_of_mem _ (w0 113 rfl))
  have hk8 := hts (.fieldLink R_M 24 "SurplusMatch$Matching" "orderDuals" "[I") (List.mem_cons_of_mem _ (w0 114 rfl))
  have hl := lv_entry ([.ref mq]) (n := 1) (Nat.le_of_ble_eq_true rfl)
  rw [lg_entry_eq]
  generalize (lg_sl ([.ref mq]) ++ List.replicate (1 - (lg_sl ([.ref mq])).length) Slot.unset).toArray = ls at hl ⊢
  have hl : lv_has ls 1 [(0, .ref mq)] := hl
  refine lv_aload_n hx hb d_M_init_0 rfl (lv_at hl 0 rfl) ?_
  refine W.objInit hx hb hown hk0 hk1 (hts _ (List.mem_cons_of_mem _ (w0 51 rfl))) rfl (by rw [hml]; exact hl.1) rfl d_M_init_1 (Nat.le_of_ble_eq_true rfl) (Nat.le_of_ble_eq_true rfl) ?_
  refine W.eq (g2 := F0 m 4 ls []) rfl ?_
  refine lv_aload_n hx hb d_M_init_4 rfl (lv_at hl 0 rfl) ?_
  refine lv_bipush (v := 100) hx hb d_M_init_5 (by decide) ?_
  refine va_newa (atype := .int) (ty := .int) hx hb hk2 rfl hK hP hD hS hA (N' := 100) (a0 := (100, .inl (fun _ => 0))) (fun _ => rfl) (by decide) (by decide) (by decide) (Nat.le_of_ble_eq_true rfl) (Nat.le_of_ble_eq_true rfl) d_M_init_7 (fun n1 cA H hK9 hP hD hS => ?_)
  have hcA : cI = cA := cA_eq hK9 0 1 rfl rfl (fun _ => Iff.rfl)
  subst hcA
  clear hK9
  have hP : va_P (dC, dI) classes [(mq, .inr (3, [.null, .null, .null, .null, .null, .int 0, .int 0, .int 0, .int 0, .int 0])), (n1, .inl (cI, 100, .inl (fun _ => 0)))] H := hP
  have hD : va_D A [(mq, .inr (3, [.null, .null, .null, .null, .null, .int 0, .int 0, .int 0, .int 0, .int 0])), (n1, .inl (cI, 100, .inl (fun _ => 0)))] := hD
  refine W.widen (k := 1) (n := 100) (Nat.le_of_ble_eq_true rfl) (Nat.le_of_ble_eq_true rfl) ?_
  refine va_putF (D := (dC, dI)) (ci := 3) (v := .ref n1) (ty := .array .int) (C := R_M) (T := F_M) (N := 10) hx hb hts hk4 t_M t_M_ok n_M hown hK hP hD hS 0 rfl rfl 0 (by decide) hk3 (fun _ h9 => h9) rfl hin rfl (by decide +kernel) rfl rfl (Nat.le_of_ble_eq_true rfl) d_M_init_9 (fun H locs hP hD hS => ?_)
  have hP : va_P (dC, dI) classes [(mq, .inr (3, [.ref n1, .null, .null, .null, .null, .int 0, .int 0, .int 0, .int 0, .int 0])), (n1, .inl (cI, 100, .inl (fun _ => 0)))] H := hP
  have hD : va_D A [(mq, .inr (3, [.ref n1, .null, .null, .null, .null, .int 0, .int 0, .int 0, .int 0, .int 0])), (n1, .inl (cI, 100, .inl (fun _ => 0)))] := hD
  refine lv_aload_n hx hb d_M_init_12 rfl (lv_at hl 0 rfl) ?_
  refine lv_sipush (v := 11264) hx hb d_M_init_13 (by decide) ?_
  refine va_newa (atype := .int) (ty := .int) hx hb hk2 rfl hK hP hD hS hA (N' := 11264) (a0 := (11264, .inl (fun _ => 0))) (fun _ => rfl) (by decide) (by decide) (by decide) (Nat.le_of_ble_eq_true rfl) (Nat.le_of_ble_eq_true rfl) d_M_init_16 (fun n2 cA H hK9 hP hD hS => ?_)
  have hcA : cI = cA := cA_eq hK9 0 1 rfl rfl (fun _ => Iff.rfl)
  subst hcA
  clear hK9
  have hP : va_P (dC, dI) classes [(mq, .inr (3, [.ref n1, .null, .null, .null, .null, .int 0, .int 0, .int 0, .int 0, .int 0])), (n1, .inl (cI, 100, .inl (fun _ => 0))), (n2, .inl (cI, 11264, .inl (fun _ => 0)))] H := hP
  have hD : va_D A [(mq, .inr (3, [.ref n1, .null, .null, .null, .null, .int 0, .int 0, .int 0, .int 0, .int 0])), (n1, .inl (cI, 100, .inl (fun _ => 0))), (n2, .inl (cI, 11264, .inl (fun _ => 0)))] := hD
  refine W.widen (k := 2) (n := 11364) (Nat.le_of_ble_eq_true rfl) (Nat.le_of_ble_eq_true rfl) ?_
  refine va_putF (D := (dC, dI)) (ci := 3) (v := .ref n2) (ty := .array .int) (C := R_M) (T := F_M) (N := 10) hx hb hts hk4 t_M t_M_ok n_M hown hK hP hD hS 0 rfl rfl 1 (by decide) hk5 (fun _ h9 => h9) rfl hin rfl (by decide +kernel) rfl rfl (Nat.le_of_ble_eq_true rfl) d_M_init_18 (fun H locs hP hD hS => ?_)
  have hP : va_P (dC, dI) classes [(mq, .inr (3, [.ref n1, .ref n2, .null, .null, .null, .int 0, .int 0, .int 0, .int 0, .int 0])), (n1, .inl (cI, 100, .inl (fun _ => 0))), (n2, .inl (cI, 11264, .inl (fun _ => 0)))] H := hP
  have hD : va_D A [(mq, .inr (3, [.ref n1, .ref n2, .null, .null, .null, .int 0, .int 0, .int 0, .int 0, .int 0])), (n1, .inl (cI, 100, .inl (fun _ => 0))), (n2, .inl (cI, 11264, .inl (fun _ => 0)))] := hD
  refine lv_aload_n hx hb d_M_init_21 rfl (lv_at hl 0 rfl) ?_
  refine lv_bipush (v := 10) hx hb d_M_init_22 (by decide) ?_
  refine va_newa (atype := .int) (ty := .int) hx hb hk2 rfl hK hP hD hS hA (N' := 10) (a0 := (10, .inl (fun _ => 0))) (fun _ => rfl) (by decide) (by decide) (by decide) (Nat.le_of_ble_eq_true rfl) (Nat.le_of_ble_eq_true rfl) d_M_init_24 (fun n3 cA H hK9 hP hD hS => ?_)
  have hcA : cI = cA := cA_eq hK9 0 1 rfl rfl (fun _ => Iff.rfl)
  subst hcA
  clear hK9
  have hP : va_P (dC, dI) classes [(mq, .inr (3, [.ref n1, .ref n2, .null, .null, .null, .int 0, .int 0, .int 0, .int 0, .int 0])), (n1, .inl (cI, 100, .inl (fun _ => 0))), (n2, .inl (cI, 11264, .inl (fun _ => 0))), (n3, .inl (cI, 10, .inl (fun _ => 0)))] H := hP
  have hD : va_D A [(mq, .inr (3, [.ref n1, .ref n2, .null, .null, .null, .int 0, .int 0, .int 0, .int 0, .int 0])), (n1, .inl (cI, 100, .inl (fun _ => 0))), (n2, .inl (cI, 11264, .inl (fun _ => 0))), (n3, .inl (cI, 10, .inl (fun _ => 0)))] := hD
  refine W.widen (k := 3) (n := 11374) (Nat.le_of_ble_eq_true rfl) (Nat.le_of_ble_eq_true rfl) ?_
  refine va_putF (D := (dC, dI)) (ci := 3) (v := .ref n3) (ty := .array .int) (C := R_M) (T := F_M) (N := 10) hx hb hts hk4 t_M t_M_ok n_M hown hK hP hD hS 0 rfl rfl 2 (by decide) hk6 (fun _ h9 => h9) rfl hin rfl (by decide +kernel) rfl rfl (Nat.le_of_ble_eq_true rfl) d_M_init_26 (fun H locs hP hD hS => ?_)
  have hP : va_P (dC, dI) classes [(mq, .inr (3, [.ref n1, .ref n2, .ref n3, .null, .null, .int 0, .int 0, .int 0, .int 0, .int 0])), (n1, .inl (cI, 100, .inl (fun _ => 0))), (n2, .inl (cI, 11264, .inl (fun _ => 0))), (n3, .inl (cI, 10, .inl (fun _ => 0)))] H := hP
  have hD : va_D A [(mq, .inr (3, [.ref n1, .ref n2, .ref n3, .null, .null, .int 0, .int 0, .int 0, .int 0, .int 0])), (n1, .inl (cI, 100, .inl (fun _ => 0))), (n2, .inl (cI, 11264, .inl (fun _ => 0))), (n3, .inl (cI, 10, .inl (fun _ => 0)))] := hD
  refine lv_aload_n hx hb d_M_init_29 rfl (lv_at hl 0 rfl) ?_
  refine lv_bipush (v := 10) hx hb d_M_init_30 (by decide) ?_
  refine va_newa (atype := .int) (ty := .int) hx hb hk2 rfl hK hP hD hS hA (N' := 10) (a0 := (10, .inl (fun _ => 0))) (fun _ => rfl) (by decide) (by decide) (by decide) (Nat.le_of_ble_eq_true rfl) (Nat.le_of_ble_eq_true rfl) d_M_init_32 (fun n4 cA H hK9 hP hD hS => ?_)
  have hcA : cI = cA := cA_eq hK9 0 1 rfl rfl (fun _ => Iff.rfl)
  subst hcA
  clear hK9
  have hP : va_P (dC, dI) classes [(mq, .inr (3, [.ref n1, .ref n2, .ref n3, .null, .null, .int 0, .int 0, .int 0, .int 0, .int 0])), (n1, .inl (cI, 100, .inl (fun _ => 0))), (n2, .inl (cI, 11264, .inl (fun _ => 0))), (n3, .inl (cI, 10, .inl (fun _ => 0))), (n4, .inl (cI, 10, .inl (fun _ => 0)))] H := hP
  have hD : va_D A [(mq, .inr (3, [.ref n1, .ref n2, .ref n3, .null, .null, .int 0, .int 0, .int 0, .int 0, .int 0])), (n1, .inl (cI, 100, .inl (fun _ => 0))), (n2, .inl (cI, 11264, .inl (fun _ => 0))), (n3, .inl (cI, 10, .inl (fun _ => 0))), (n4, .inl (cI, 10, .inl (fun _ => 0)))] := hD
  refine W.widen (k := 4) (n := 11384) (Nat.le_of_ble_eq_true rfl) (Nat.le_of_ble_eq_true rfl) ?_
  refine va_putF (D := (dC, dI)) (ci := 3) (v := .ref n4) (ty := .array .int) (C := R_M) (T := F_M) (N := 10) hx hb hts hk4 t_M t_M_ok n_M hown hK hP hD hS 0 rfl rfl 3 (by decide) hk7 (fun _ h9 => h9) rfl hin rfl (by decide +kernel) rfl rfl (Nat.le_of_ble_eq_true rfl) d_M_init_34 (fun H locs hP hD hS => ?_)
  have hP : va_P (dC, dI) classes [(mq, .inr (3, [.ref n1, .ref n2, .ref n3, .ref n4, .null, .int 0, .int 0, .int 0, .int 0, .int 0])), (n1, .inl (cI, 100, .inl (fun _ => 0))), (n2, .inl (cI, 11264, .inl (fun _ => 0))), (n3, .inl (cI, 10, .inl (fun _ => 0))), (n4, .inl (cI, 10, .inl (fun _ => 0)))] H := hP
  have hD : va_D A [(mq, .inr (3, [.ref n1, .ref n2, .ref n3, .ref n4, .null, .int 0, .int 0, .int 0, .int 0, .int 0])), (n1, .inl (cI, 100, .inl (fun _ => 0))), (n2, .inl (cI, 11264, .inl (fun _ => 0))), (n3, .inl (cI, 10, .inl (fun _ => 0))), (n4, .inl (cI, 10, .inl (fun _ => 0)))] := hD
  refine lv_aload_n hx hb d_M_init_37 rfl (lv_at hl 0 rfl) ?_
  refine lv_bipush (v := 10) hx hb d_M_init_38 (by decide) ?_
  refine va_newa (atype := .int) (ty := .int) hx hb hk2 rfl hK hP hD hS hA (N' := 10) (a0 := (10, .inl (fun _ => 0))) (fun _ => rfl) (by decide) (by decide) (by decide) (Nat.le_of_ble_eq_true rfl) (Nat.le_of_ble_eq_true rfl) d_M_init_40 (fun n5 cA H hK9 hP hD hS => ?_)
  have hcA : cI = cA := cA_eq hK9 0 1 rfl rfl (fun _ => Iff.rfl)
  subst hcA
  clear hK9
  have hP : va_P (dC, dI) classes [(mq, .inr (3, [.ref n1, .ref n2, .ref n3, .ref n4, .null, .int 0, .int 0, .int 0, .int 0, .int 0])), (n1, .inl (cI, 100, .inl (fun _ => 0))), (n2, .inl (cI, 11264, .inl (fun _ => 0))), (n3, .inl (cI, 10, .inl (fun _ => 0))), (n4, .inl (cI, 10, .inl (fun _ => 0))), (n5, .inl (cI, 10, .inl (fun _ => 0)))] H := hP
  have hD : va_D A [(mq, .inr (3, [.ref n1, .ref n2, .ref n3, .ref n4, .null, .int 0, .int 0, .int 0, .int 0, .int 0])), (n1, .inl (cI, 100, .inl (fun _ => 0))), (n2, .inl (cI, 11264, .inl (fun _ => 0))), (n3, .inl (cI, 10, .inl (fun _ => 0))), (n4, .inl (cI, 10, .inl (fun _ => 0))), (n5, .inl (cI, 10, .inl (fun _ => 0)))] := hD
  refine W.widen (k := 5) (n := 11394) (Nat.le_of_ble_eq_true rfl) (Nat.le_of_ble_eq_true rfl) ?_
  refine va_putF (D := (dC, dI)) (ci := 3) (v := .ref n5) (ty := .array .int) (C := R_M) (T := F_M) (N := 10) hx hb hts hk4 t_M t_M_ok n_M hown hK hP hD hS 0 rfl rfl 4 (by decide) hk8 (fun _ h9 => h9) rfl hin rfl (by decide +kernel) rfl rfl (Nat.le_of_ble_eq_true rfl) d_M_init_42 (fun H locs hP hD hS => ?_)
  have hP : va_P (dC, dI) classes [(mq, .inr (3, [.ref n1, .ref n2, .ref n3, .ref n4, .ref n5, .int 0, .int 0, .int 0, .int 0, .int 0])), (n1, .inl (cI, 100, .inl (fun _ => 0))), (n2, .inl (cI, 11264, .inl (fun _ => 0))), (n3, .inl (cI, 10, .inl (fun _ => 0))), (n4, .inl (cI, 10, .inl (fun _ => 0))), (n5, .inl (cI, 10, .inl (fun _ => 0)))] H := hP
  have hD : va_D A [(mq, .inr (3, [.ref n1, .ref n2, .ref n3, .ref n4, .ref n5, .int 0, .int 0, .int 0, .int 0, .int 0])), (n1, .inl (cI, 100, .inl (fun _ => 0))), (n2, .inl (cI, 11264, .inl (fun _ => 0))), (n3, .inl (cI, 10, .inl (fun _ => 0))), (n4, .inl (cI, 10, .inl (fun _ => 0))), (n5, .inl (cI, 10, .inl (fun _ => 0)))] := hD
  exact W.vret hx hb hr (fun t ht hW => ⟨⟨(n1, n2, n3, n4, n5), rfl, trivial, by rw [ht]; exact hP, va_K.moved hW.alike hK, hD⟩, hS.F ht⟩) hS.2.2 d_M_init_45

def w_S_init : List Cond := .code y_S_init b_S_init 1 none :: W0
theorem q_S_init : y_S_init.cls = R_S ∧ y_S_init.cls ≠ "java/lang/invoke/MethodHandle" ∧ y_S_init.cls ≠ "java/lang/invoke/VarHandle" ∧ (parseMethodDescriptor y_S_init.desc).map (fun d => d.parameters.length) = some 0 := by decide +kernel
set_option maxHeartbeats 4000000 in
set_option maxRecDepth 100000 in
theorem c_S_init (l : Launch) (dC : Nat → ClassId) (dI : Nat → Nat → Nat) (cI : ClassId) (sq : Nat) (sz : Nat) : Met l y_S_init w_S_init ({ frames := 2, cells := 23, slots := 11639, locals := 45 } : Room) (va_Pc [.ref sq] (fun U => U.heap.size = sz ∧ va_P (dC, dI) classes [(sq, .inr (4, [.null, .null, .null, .null, .null, .null, .null, .int 0, .int 0, .int 0, .int 0]))] U.heap ∧ va_K (dC, dI) classes [(cI, .int)] U ∧ va_D (fun _ => True) [(sq, .inr (4, [.null, .null, .null, .null, .null, .null, .null, .int 0, .int 0, .int 0, .int 0]))] ∧ nw U)) (va_Qv (fun _ : Nat × Nat × Nat × Nat × Nat × Nat × Nat × Nat × Nat × Nat × Nat × Nat × Nat × Nat × Nat × Nat × Nat × Nat × Nat × Nat × Nat × Nat × Nat => True) (fun u t => va_P (dC, dI) classes [(sq, .inr (4, [.ref u.1, .ref u.2.2.2.2.2.1, .ref u.2.2.2.2.2.2.2.2.2.2.1, .ref u.2.2.2.2.2.2.2.2.2.2.2.1, .ref u.2.2.2.2.2.2.2.2.2.2.2.2.1, .ref u.2.2.2.2.2.2.2.2.2.2.2.2.2.2.1, .ref u.2.2.2.2.2.2.2.2.2.2.2.2.2.2.2.2.2.1, .int 0, .int 0, .int 0, .int 100])), (u.1, .inr (0, [.ref u.2.1, .ref u.2.2.1, .ref u.2.2.2.1, .ref u.2.2.2.2.1, .int 0])), (u.2.1, .inl (cI, 10, .inl (fun _ => 0))), (u.2.2.1, .inl (cI, 10, .inl (fun _ => 0))), (u.2.2.2.1, .inl (cI, 10, .inl (fun _ => 0))), (u.2.2.2.2.1, .inl (cI, 10, .inl (fun _ => 0))), (u.2.2.2.2.2.1, .inr (0, [.ref u.2.2.2.2.2.2.1, .ref u.2.2.2.2.2.2.2.1, .ref u.2.2.2.2.2.2.2.2.1, .ref u.2.2.2.2.2.2.2.2.2.1, .int 0])), (u.2.2.2.2.2.2.1, .inl (cI, 10, .inl (fun _ => 0))), (u.2.2.2.2.2.2.2.1, .inl (cI, 10, .inl (fun _ => 0))), (u.2.2.2.2.2.2.2.2.1, .inl (cI, 10, .inl (fun _ => 0))), (u.2.2.2.2.2.2.2.2.2.1, .inl (cI, 10, .inl (fun _ => 0))), (u.2.2.2.2.2.2.2.2.2.2.1, .inl (cI, 10, .inl (fun _ => 0))), (u.2.2.2.2.2.2.2.2.2.2.2.1, .inl (cI, 100, .inl (fun _ => 0))), (u.2.2.2.2.2.2.2.2.2.2.2.2.1, .inr (1, [.ref u.2.2.2.2.2.2.2.2.2.2.2.2.2.1, .int 0])), (u.2.2.2.2.2.2.2.2.2.2.2.2.2.1, .inl (cI, 10, .inl (fun _ => 0))), (u.2.2.2.2.2.2.2.2.2.2.2.2.2.2.1, .inr (2, [.ref u.2.2.2.2.2.2.2.2.2.2.2.2.2.2.2.1, .ref u.2.2.2.2.2.2.2.2.2.2.2.2.2.2.2.2.1, .int 0])), (u.2.2.2.2.2.2.2.2.2.2.2.2.2.2.2.1, .inl (cI, 10, .inl (upd (upd (upd (upd (upd (upd (upd (upd (upd (upd (fun _ => 0) (0 : Int32).toNatClampNeg (-1)) (1 : Int32).toNatClampNeg (-1)) (2 : Int32).toNatClampNeg (-1)) (3 : Int32).toNatClampNeg (-1)) (4 : Int32).toNatClampNeg (-1)) (5 : Int32).toNatClampNeg (-1)) (6 : Int32).toNatClampNeg (-1)) (7 : Int32).toNatClampNeg (-1)) (8 : Int32).toNatClampNeg (-1)) (9 : Int32).toNatClampNeg (-1)))), (u.2.2.2.2.2.2.2.2.2.2.2.2.2.2.2.2.1, .inl (cI, 10, .inl (fun _ => 0))), (u.2.2.2.2.2.2.2.2.2.2.2.2.2.2.2.2.2.1, .inr (3, [.ref u.2.2.2.2.2.2.2.2.2.2.2.2.2.2.2.2.2.2.1, .ref u.2.2.2.2.2.2.2.2.2.2.2.2.2.2.2.2.2.2.2.1, .ref u.2.2.2.2.2.2.2.2.2.2.2.2.2.2.2.2.2.2.2.2.1, .ref u.2.2.2.2.2.2.2.2.2.2.2.2.2.2.2.2.2.2.2.2.2.1, .ref u.2.2.2.2.2.2.2.2.2.2.2.2.2.2.2.2.2.2.2.2.2.2, .int 0, .int 0, .int 0, .int 0, .int 0])), (u.2.2.2.2.2.2.2.2.2.2.2.2.2.2.2.2.2.2.1, .inl (cI, 100, .inl (fun _ => 0))), (u.2.2.2.2.2.2.2.2.2.2.2.2.2.2.2.2.2.2.2.1, .inl (cI, 11264, .inl (fun _ => 0))), (u.2.2.2.2.2.2.2.2.2.2.2.2.2.2.2.2.2.2.2.2.1, .inl (cI, 10, .inl (fun _ => 0))), (u.2.2.2.2.2.2.2.2.2.2.2.2.2.2.2.2.2.2.2.2.2.1, .inl (cI, 10, .inl (fun _ => 0))), (u.2.2.2.2.2.2.2.2.2.2.2.2.2.2.2.2.2.2.2.2.2.2, .inl (cI, 10, .inl (fun _ => 0)))] t.heap ∧ va_K (dC, dI) classes [(cI, .int)] t ∧ va_D (va_A [(sq, .inr (4, [.null, .null, .null, .null, .null, .null, .null, .int 0, .int 0, .int 0, .int 0]))] sz) [(sq, .inr (4, [.ref u.1, .ref u.2.2.2.2.2.1, .ref u.2.2.2.2.2.2.2.2.2.2.1, .ref u.2.2.2.2.2.2.2.2.2.2.2.1, .ref u.2.2.2.2.2.2.2.2.2.2.2.2.1, .ref u.2.2.2.2.2.2.2.2.2.2.2.2.2.2.1, .ref u.2.2.2.2.2.2.2.2.2.2.2.2.2.2.2.2.2.1, .int 0, .int 0, .int 0, .int 100])), (u.1, .inr (0, [.ref u.2.1, .ref u.2.2.1, .ref u.2.2.2.1, .ref u.2.2.2.2.1, .int 0])), (u.2.1, .inl (cI, 10, .inl (fun _ => 0))), (u.2.2.1, .inl (cI, 10, .inl (fun _ => 0))), (u.2.2.2.1, .inl (cI, 10, .inl (fun _ => 0))), (u.2.2.2.2.1, .inl (cI, 10, .inl (fun _ => 0))), (u.2.2.2.2.2.1, .inr (0, [.ref u.2.2.2.2.2.2.1, .ref u.2.2.2.2.2.2.2.1, .ref u.2.2.2.2.2.2.2.2.1, .ref u.2.2.2.2.2.2.2.2.2.1, .int 0])), (u.2.2.2.2.2.2.1, .inl (cI, 10, .inl (fun _ => 0))), (u.2.2.2.2.2.2.2.1, .inl (cI, 10, .inl (fun _ => 0))), (u.2.2.2.2.2.2.2.2.1, .inl (cI, 10, .inl (fun _ => 0))), (u.2.2.2.2.2.2.2.2.2.1, .inl (cI, 10, .inl (fun _ => 0))), (u.2.2.2.2.2.2.2.2.2.2.1, .inl (cI, 10, .inl (fun _ => 0))), (u.2.2.2.2.2.2.2.2.2.2.2.1, .inl (cI, 100, .inl (fun _ => 0))), (u.2.2.2.2.2.2.2.2.2.2.2.2.1, .inr (1, [.ref u.2.2.2.2.2.2.2.2.2.2.2.2.2.1, .int 0])), (u.2.2.2.2.2.2.2.2.2.2.2.2.2.1, .inl (cI, 10, .inl (fun _ => 0))), (u.2.2.2.2.2.2.2.2.2.2.2.2.2.2.1, .inr (2, [.ref u.2.2.2.2.2.2.2.2.2.2.2.2.2.2.2.1, .ref u.2.2.2.2.2.2.2.2.2.2.2.2.2.2.2.2.1, .int 0])), (u.2.2.2.2.2.2.2.2.2.2.2.2.2.2.2.1, .inl (cI, 10, .inl (upd (upd (upd (upd (upd (upd (upd (upd (upd (upd (fun _ => 0) (0 : Int32).toNatClampNeg (-1)) (1 : Int32).toNatClampNeg (-1)) (2 : Int32).toNatClampNeg (-1)) (3 : Int32).toNatClampNeg (-1)) (4 : Int32).toNatClampNeg (-1)) (5 : Int32).toNatClampNeg (-1)) (6 : Int32).toNatClampNeg (-1)) (7 : Int32).toNatClampNeg (-1)) (8 : Int32).toNatClampNeg (-1)) (9 : Int32).toNatClampNeg (-1)))), (u.2.2.2.2.2.2.2.2.2.2.2.2.2.2.2.2.1, .inl (cI, 10, .inl (fun _ => 0))), (u.2.2.2.2.2.2.2.2.2.2.2.2.2.2.2.2.2.1, .inr (3, [.ref u.2.2.2.2.2.2.2.2.2.2.2.2.2.2.2.2.2.2.1, .ref u.2.2.2.2.2.2.2.2.2.2.2.2.2.2.2.2.2.2.2.1, .ref u.2.2.2.2.2.2.2.2.2.2.2.2.2.2.2.2.2.2.2.2.1, .ref u.2.2.2.2.2.2.2.2.2.2.2.2.2.2.2.2.2.2.2.2.2.1, .ref u.2.2.2.2.2.2.2.2.2.2.2.2.2.2.2.2.2.2.2.2.2.2, .int 0, .int 0, .int 0, .int 0, .int 0])), (u.2.2.2.2.2.2.2.2.2.2.2.2.2.2.2.2.2.2.1, .inl (cI, 100, .inl (fun _ => 0))), (u.2.2.2.2.2.2.2.2.2.2.2.2.2.2.2.2.2.2.2.1, .inl (cI, 11264, .inl (fun _ => 0))), (u.2.2.2.2.2.2.2.2.2.2.2.2.2.2.2.2.2.2.2.2.1, .inl (cI, 10, .inl (fun _ => 0))), (u.2.2.2.2.2.2.2.2.2.2.2.2.2.2.2.2.2.2.2.2.2.1, .inl (cI, 10, .inl (fun _ => 0))), (u.2.2.2.2.2.2.2.2.2.2.2.2.2.2.2.2.2.2.2.2.2.2, .inl (cI, 10, .inl (fun _ => 0)))]) (va_A [(sq, .inr (4, [.null, .null, .null, .null, .null, .null, .null, .int 0, .int 0, .int 0, .int 0]))] sz)) 23 11639 (va_A [(sq, .inr (4, [.null, .null, .null, .null, .null, .null, .null, .int 0, .int 0, .int 0, .int 0]))] sz) := by
  refine Met.ofW (cc := b_S_init) (maxL := 1) (ret := none) (by decide) rfl ?_
  intro p e s m args below meth c s₁ B hml hv
  obtain ⟨rfl, hsz, hP, hK, hD0, hN⟩ := hv
  have hx := B.exec
  have hb := B.bytes
  have hr := B.returns
  have hts := atoms_spec (ws := w_S_init) B.pre
  have hown : s.vm.findClass R_S = some m.cls := findClass_of_methodNamed B.named
  have hin : meth.name = "<init>" := (name_of_methodNamed B.named B.method).1
  have hlocks := B.notSynchronized
  subst hsz
  have hD := hD0.self (sz := s.heap.size)
  generalize hAe : va_A [(sq, .inr (4, [.null, .null, .null, .null, .null, .null, .null, .int 0, .int 0, .int 0, .int 0]))] s.heap.size = A at hD ⊢
  have hA : ∀ q : Nat, s.heap.size ≤ q → A q := fun q h => by rw [← hAe]; exact Or.inr h
  have hS : va_S A s.heap s.heap [] := va_S.rf
  have hk0 := hts (.methodLink R_S 1 objectInit) (List.mem_cons_of_mem _ (w0 49 rfl))
  have hk1 := hts (.instanceMethod objectInit) (List.mem_cons_of_mem _ (w0 50 rfl))
  have hk2 : ∀ w ∈ w_B, w ∈ w_S_init := fun w h => List.mem_cons_of_mem _ (i_B w h)
  have hk3 := hts (.classLink R_S 7 "SurplusMatch$Boards") (List.mem_cons_of_mem _ (w0 52 rfl))
  have hk4 := hts (.instantiable "SurplusMatch$Boards" 5) (List.mem_cons_of_mem _ (w0 53 rfl))
  have hk5 := hts (.initialized "SurplusMatch$Boards") (List.mem_cons_of_mem _ (w0 29 rfl))
  have hk6 := hts (.methodLink R_S 9 y_B_init) (List.mem_cons_of_mem _ (w0 54 rfl))
  have hk7 := hts (.instanceMethod y_B_init) (List.mem_cons_of_mem _ (w0 55 rfl))
  have hk8 := hts (.fieldLink R_S 10 "SurplusMatch" "pieces" "LSurplusMatch$Boards;") (List.mem_cons_of_mem _ (w0 141 rfl))
  have hk9 : ∀ w ∈ w_S, w ∈ w_S_init := fun w h => List.mem_cons_of_mem _ (i_S w h)
  have hk10 := hts (.fieldLink R_S 16 "SurplusMatch" "orders" "LSurplusMatch$Boards;") (List.mem_cons_of_mem _ (w0 142 rfl))
  have hk11 := hts (.arrayClass .int) (List.mem_cons_of_mem _ (w0 74 rfl))
  have hk12 := hts (.fieldLink R_S 19 "SurplusMatch" "cameOn" "[I") (List.mem_cons_of_mem _ (w0 143 rfl))
  have hk13 := hts (.fieldLink R_S 23 "SurplusMatch" "told" "[I") (List.mem_cons_of_mem _ (w0 144 rfl))
  have hk14 : ∀ w ∈ w_U, w ∈ w_S_init := fun w h => List.mem_cons_of_mem _ (i_U w h)
  have hk15 := hts (.classLink R_S 26 "SurplusMatch$Uses") (List.mem_cons_of_mem _ (w0 75 rfl))
  have hk16 := hts (.instantiable "SurplusMatch$Uses" 2) (List.mem_cons_of_mem _ (w0 76 rfl))
  have hk17 := hts (.initialized "SurplusMatch$Uses") (List.mem_cons_of_mem _ (w0 30 rfl))
  have hk18 := hts (.methodLink R_S 28 y_U_init) (List.mem_cons_of_mem _ (w0 77 rfl))
  have hk19 := hts (.instanceMethod y_U_init) (List.mem_cons_of_mem _ (w0 78 rfl))
  have hk20 := hts (.fieldLink R_S 29 "SurplusMatch" "uses" "LSurplusMatch$Uses;") (List.mem_cons_of_mem _ (w0 145 rfl))
  have hk21 : ∀ w ∈ w_H, w ∈ w_S_init := fun w h => List.mem_cons_of_mem _ (i_H w h)
  have hk22 := hts (.classLink R_S 33 "SurplusMatch$Holds") (List.mem_cons_of_mem _ (w0 88 rfl))
  have hk23 := hts (.instantiable "SurplusMatch$Holds" 3) (List.mem_cons_of_mem _ (w0 89 rfl))
  have hk24 := hts (.initialized "SurplusMatch$Holds") (List.mem_cons_of_mem _ (w0 31 rfl))
  have hk25 := hts (.methodLink R_S 35 y_H_init) (List.mem_cons_of_mem _ (w0 90 rfl))
  have hk26 := hts (.instanceMethod y_H_init) (List.mem_cons_of_mem _ (w0 91 rfl))
  have hk27 := hts (.fieldLink R_S 36 "SurplusMatch" "holds" "LSurplusMatch$Holds;") (List.mem_cons_of_mem _ (w0 146 rfl))
  have hk28 : ∀ w ∈ w_M, w ∈ w_S_init := fun w h => List.mem_cons_of_mem _ (i_M w h)
  have hk29 := hts (.classLink R_S 40 "SurplusMatch$Matching") (List.mem_cons_of_mem _ (w0 104 rfl))
  have hk30 := hts (.instantiable "SurplusMatch$Matching" 10) (List.mem_cons_of_mem _ (w0 105 rfl))
  have hk31 := hts (.initialized "SurplusMatch$Matching") (List.mem_cons_of_mem _ (w0 32 rfl))
  have hk32 := hts (.methodLink R_S 42 y_M_init) (List.mem_cons_of_mem _ (w0 106 rfl))
  have hk33 := hts (.instanceMethod y_M_init) (List.mem_cons_of_mem _ (w0 107 rfl))
  have hk34 := hts (.fieldLink R_S 43 "SurplusMatch" "matching" "LSurplusMatch$Matching;") (List.mem_cons_of_mem _ (w0 147 rfl))
  have hk35 := hts (.fieldLink R_S 47 "SurplusMatch" "saleAge" "I") (List.mem_cons_of_mem _ (w0 151 rfl))
  have hl := lv_entry ([.ref sq]) (n := 1) (Nat.le_of_ble_eq_true rfl)
  rw [lg_entry_eq]
  generalize (lg_sl ([.ref sq]) ++ List.replicate (1 - (lg_sl ([.ref sq])).length) Slot.unset).toArray = ls at hl ⊢
  have hl : lv_has ls 1 [(0, .ref sq)] := hl
  refine lv_aload_n hx hb d_S_init_0 rfl (lv_at hl 0 rfl) ?_
  refine W.objInit hx hb hown hk0 hk1 (hts _ (List.mem_cons_of_mem _ (w0 51 rfl))) rfl (by rw [hml]; exact hl.1) rfl d_S_init_1 (Nat.le_of_ble_eq_true rfl) (Nat.le_of_ble_eq_true rfl) ?_
  refine W.eq (g2 := F0 m 4 ls []) rfl ?_
  refine lv_aload_n hx hb d_S_init_4 rfl (lv_at hl 0 rfl) ?_
  refine va_new (ci := 0) (fs := [.null, .null, .null, .null, .int 0]) (C := R_B) (T := F_B) (N := 5) hx hb hts hk2 t_B t_B_ok hown hk3 hk4 hk5 hK hP hD hS hA rfl (fun j hj => by rcases (show j = 0 ∨ j = 1 ∨ j = 2 ∨ j = 3 ∨ j = 4 by omega) with rfl | rfl | rfl | rfl | rfl <;> rfl) (Nat.le_of_ble_eq_true rfl) (Nat.le_of_ble_eq_true rfl) d_S_init_5 (fun n1 H hP hD hS => ?_)
  have hP : va_P (dC, dI) classes [(sq, .inr (4, [.null, .null, .null, .null, .null, .null, .null, .int 0, .int 0, .int 0, .int 0])), (n1, .inr (0, [.null, .null, .null, .null, .int 0]))] H := hP
  have hD : va_D A [(sq, .inr (4, [.null, .null, .null, .null, .null, .null, .null, .int 0, .int 0, .int 0, .int 0])), (n1, .inr (0, [.null, .null, .null, .null, .int 0]))] := hD
  refine W.widen (k := 1) (n := 5) (Nat.le_of_ble_eq_true rfl) (Nat.le_of_ble_eq_true rfl) ?_
  refine lv_dup hx hb d_S_init_8 rfl ?_
  have hPc := hP.sub (ws' := [(n1, .inr (0, [.null, .null, .null, .null, .int 0]))]) [1] rfl
  have hDc := hD.sub (ws' := [(n1, .inr (0, [.null, .null, .null, .null, .int 0]))]) [1] (by decide) rfl
  have hFc := va_free (wc := [(n1, .inr (0, [.null, .null, .null, .null, .int 0]))]) hD hS hA [1] rfl
  refine va_callv (va_runI (As := []) (rest := [.ref n1, .ref sq]) ⟨hx, hb, hml, hown, hts⟩ (c_B_init l dC dI cI n1 H.size) (cwI 0 hts (gN (w0 56 rfl)) rfl rfl rfl hk5 hk6 hk7 rfl q_B_init.2 ⟨Nat.le_of_ble_eq_true rfl, Nat.le_of_ble_eq_true rfl⟩) (wr_preS hK hPc hDc hN) rfl rfl hl.1 rfl (lv_room (Nat.le_of_ble_eq_true rfl)) d_S_init_9 ⟨Nat.le_of_ble_eq_true rfl, Nat.le_of_ble_eq_true rfl⟩) hS (fun q _ h => hFc q h) hFc (fun u t H1 locs ht hvm hw hB hz1 hk1 hS => ?_)
  obtain ⟨n2, n3, n4, n5⟩ := u
  obtain ⟨hP1, hK1, hD1⟩ := hB
  rw [ht] at hP1
  obtain ⟨hP, hD⟩ := va_join (wr := [(sq, .inr (4, [.null, .null, .null, .null, .null, .null, .null, .int 0, .int 0, .int 0, .int 0]))]) (w1 := [(n1, .inr (0, [.ref n2, .ref n3, .ref n4, .ref n5, .int 0])), (n2, .inl (cI, 10, .inl (fun _ => 0))), (n3, .inl (cI, 10, .inl (fun _ => 0))), (n4, .inl (cI, 10, .inl (fun _ => 0))), (n5, .inl (cI, 10, .inl (fun _ => 0)))]) hP hD [1] [0] rfl rfl (by decide) (by decide) hk1 hFc hP1 hD1
  generalize H1 = H at hP hS ⊢
  have hP : va_P (dC, dI) classes [(sq, .inr (4, [.null, .null, .null, .null, .null, .null, .null, .int 0, .int 0, .int 0, .int 0])), (n1, .inr (0, [.ref n2, .ref n3, .ref n4, .ref n5, .int 0])), (n2, .inl (cI, 10, .inl (fun _ => 0))), (n3, .inl (cI, 10, .inl (fun _ => 0))), (n4, .inl (cI, 10, .inl (fun _ => 0))), (n5, .inl (cI, 10, .inl (fun _ => 0)))] H := hP
  have hD : va_D A [(sq, .inr (4, [.null, .null, .null, .null, .null, .null, .null, .int 0, .int 0, .int 0, .int 0])), (n1, .inr (0, [.ref n2, .ref n3, .ref n4, .ref n5, .int 0])), (n2, .inl (cI, 10, .inl (fun _ => 0))), (n3, .inl (cI, 10, .inl (fun _ => 0))), (n4, .inl (cI, 10, .inl (fun _ => 0))), (n5, .inl (cI, 10, .inl (fun _ => 0)))] := hD
  clear hP1 hD1 hPc hDc hFc hk1 hz1
  refine W.widen (k := 5) (n := 45) (Nat.le_of_ble_eq_true rfl) (Nat.le_of_ble_eq_true rfl) ?_
  refine va_putF (D := (dC, dI)) (ci := 4) (v := .ref n1) (ty := .object "SurplusMatch$Boards") (C := R_S) (T := F_S) (N := 11) hx hb hts hk9 t_S t_S_ok n_S hown hK hP hD hS 0 rfl rfl 0 (by decide) hk8 (fun _ h9 => h9) rfl hin rfl (by decide +kernel) rfl rfl (Nat.le_of_ble_eq_true rfl) d_S_init_12 (fun H locs hP hD hS => ?_)
  have hP : va_P (dC, dI) classes [(sq, .inr (4, [.ref n1, .null, .null, .null, .null, .null, .null, .int 0, .int 0, .int 0, .int 0])), (n1, .inr (0, [.ref n2, .ref n3, .ref n4, .ref n5, .int 0])), (n2, .inl (cI, 10, .inl (fun _ => 0))), (n3, .inl (cI, 10, .inl (fun _ => 0))), (n4, .inl (cI, 10, .inl (fun _ => 0))), (n5, .inl (cI, 10, .inl (fun _ => 0)))] H := hP
  have hD : va_D A [(sq, .inr (4, [.ref n1, .null, .null, .null, .null, .null, .null, .int 0, .int 0, .int 0, .int 0])), (n1, .inr (0, [.ref n2, .ref n3, .ref n4, .ref n5, .int 0])), (n2, .inl (cI, 10, .inl (fun _ => 0))), (n3, .inl (cI, 10, .inl (fun _ => 0))), (n4, .inl (cI, 10, .inl (fun _ => 0))), (n5, .inl (cI, 10, .inl (fun _ => 0)))] := hD
  refine lv_aload_n hx hb d_S_init_15 rfl (lv_at hl 0 rfl) ?_
  refine va_new (ci := 0) (fs := [.null, .null, .null, .null, .int 0]) (C := R_B) (T := F_B) (N := 5) hx hb hts hk2 t_B t_B_ok hown hk3 hk4 hk5 hK hP hD hS hA rfl (fun j hj => by rcases (show j = 0 ∨ j = 1 ∨ j = 2 ∨ j = 3 ∨ j = 4 by omega) with rfl | rfl | rfl | rfl | rfl <;> rfl) (Nat.le_of_ble_eq_true rfl) (Nat.le_of_ble_eq_true rfl) d_S_init_16 (fun n6 H hP hD hS => ?_)
  have hP : va_P (dC, dI) classes [(sq, .inr (4, [.ref n1, .null, .null, .null, .null, .null, .null, .int 0, .int 0, .int 0, .int 0])), (n1, .inr (0, [.ref n2, .ref n3, .ref n4, .ref n5, .int 0])), (n2, .inl (cI, 10, .inl (fun _ => 0))), (n3, .inl (cI, 10, .inl (fun _ => 0))), (n4, .inl (cI, 10, .inl (fun _ => 0))), (n5, .inl (cI, 10, .inl (fun _ => 0))), (n6, .inr (0, [.null, .null, .null, .null, .int 0]))] H := hP
  have hD : va_D A [(sq, .inr (4, [.ref n1, .null, .null, .null, .null, .null, .null, .int 0, .int 0, .int 0, .int 0])), (n1, .inr (0, [.ref n2, .ref n3, .ref n4, .ref n5, .int 0])), (n2, .inl (cI, 10, .inl (fun _ => 0))), (n3, .inl (cI, 10, .inl (fun _ => 0))), (n4, .inl (cI, 10, .inl (fun _ => 0))), (n5, .inl (cI, 10, .inl (fun _ => 0))), (n6, .inr (0, [.null, .null, .null, .null, .int 0]))] := hD
  refine W.widen (k := 6) (n := 50) (Nat.le_of_ble_eq_true rfl) (Nat.le_of_ble_eq_true rfl) ?_
  refine lv_dup hx hb d_S_init_19 rfl ?_
  have hPc := hP.sub (ws' := [(n6, .inr (0, [.null, .null, .null, .null, .int 0]))]) [6] rfl
  have hDc := hD.sub (ws' := [(n6, .inr (0, [.null, .null, .null, .null, .int 0]))]) [6] (by decide) rfl
  have hFc := va_free (wc := [(n6, .inr (0, [.null, .null, .null, .null, .int 0]))]) hD hS hA [6] rfl
  refine va_callv (va_runI (As := []) (rest := [.ref n6, .ref sq]) ⟨hx, hb, hml, hown, hts⟩ (c_B_init l dC dI cI n6 H.size) (cwI 0 hts (gN (w0 56 rfl)) rfl rfl rfl hk5 hk6 hk7 rfl q_B_init.2 ⟨Nat.le_of_ble_eq_true rfl, Nat.le_of_ble_eq_true rfl⟩) (wr_preS hK hPc hDc hN) rfl rfl hl.1 rfl (lv_room (Nat.le_of_ble_eq_true rfl)) d_S_init_20 ⟨Nat.le_of_ble_eq_true rfl, Nat.le_of_ble_eq_true rfl⟩) hS (fun q _ h => hFc q h) hFc (fun u t H1 locs ht hvm hw hB hz1 hk1 hS => ?_)
  obtain ⟨n7, n8, n9, n10⟩ := u
  obtain ⟨hP1, hK1, hD1⟩ := hB
  rw [ht] at hP1
  obtain ⟨hP, hD⟩ := va_join (wr := [(sq, .inr (4, [.ref n1, .null, .null, .null, .null, .null, .null, .int 0, .int 0, .int 0, .int 0])), (n1, .inr (0, [.ref n2, .ref n3, .ref n4, .ref n5, .int 0])), (n2, .inl (cI, 10, .inl (fun _ => 0))), (n3, .inl (cI, 10, .inl (fun _ => 0))), (n4, .inl (cI, 10, .inl (fun _ => 0))), (n5, .inl (cI, 10, .inl (fun _ => 0)))]) (w1 := [(n6, .inr (0, [.ref n7, .ref n8, .ref n9, .ref n10, .int 0])), (n7, .inl (cI, 10, .inl (fun _ => 0))), (n8, .inl (cI, 10, .inl (fun _ => 0))), (n9, .inl (cI, 10, .inl (fun _ => 0))), (n10, .inl (cI, 10, .inl (fun _ => 0)))]) hP hD [6] [0, 1, 2, 3, 4, 5] rfl rfl (by decide) (by decide) hk1 hFc hP1 hD1
  generalize H1 = H at hP hS ⊢
  have hP : va_P (dC, dI) classes [(sq, .inr (4, [.ref n1, .null, .null, .null, .null, .null, .null, .int 0, .int 0, .int 0, .int 0])), (n1, .inr (0, [.ref n2, .ref n3, .ref n4, .ref n5, .int 0])), (n2, .inl (cI, 10, .inl (fun _ => 0))), (n3, .inl (cI, 10, .inl (fun _ => 0))), (n4, .inl (cI, 10, .inl (fun _ => 0))), (n5, .inl (cI, 10, .inl (fun _ => 0))), (n6, .inr (0, [.ref n7, .ref n8, .ref n9, .ref n10, .int 0])), (n7, .inl (cI, 10, .inl (fun _ => 0))), (n8, .inl (cI, 10, .inl (fun _ => 0))), (n9, .inl (cI, 10, .inl (fun _ => 0))), (n10, .inl (cI, 10, .inl (fun _ => 0)))] H := hP
  have hD : va_D A [(sq, .inr (4, [.ref n1, .null, .null, .null, .null, .null, .null, .int 0, .int 0, .int 0, .int 0])), (n1, .inr (0, [.ref n2, .ref n3, .ref n4, .ref n5, .int 0])), (n2, .inl (cI, 10, .inl (fun _ => 0))), (n3, .inl (cI, 10, .inl (fun _ => 0))), (n4, .inl (cI, 10, .inl (fun _ => 0))), (n5, .inl (cI, 10, .inl (fun _ => 0))), (n6, .inr (0, [.ref n7, .ref n8, .ref n9, .ref n10, .int 0])), (n7, .inl (cI, 10, .inl (fun _ => 0))), (n8, .inl (cI, 10, .inl (fun _ => 0))), (n9, .inl (cI, 10, .inl (fun _ => 0))), (n10, .inl (cI, 10, .inl (fun _ => 0)))] := hD
  clear hP1 hD1 hPc hDc hFc hk1 hz1
  refine W.widen (k := 10) (n := 90) (Nat.le_of_ble_eq_true rfl) (Nat.le_of_ble_eq_true rfl) ?_
  refine va_putF (D := (dC, dI)) (ci := 4) (v := .ref n6) (ty := .object "SurplusMatch$Boards") (C := R_S) (T := F_S) (N := 11) hx hb hts hk9 t_S t_S_ok n_S hown hK hP hD hS 0 rfl rfl 1 (by decide) hk10 (fun _ h9 => h9) rfl hin rfl (by decide +kernel) rfl rfl (Nat.le_of_ble_eq_true rfl) d_S_init_23 (fun H locs hP hD hS => ?_)
  have hP : va_P (dC, dI) classes [(sq, .inr (4, [.ref n1, .ref n6, .null, .null, .null, .null, .null, .int 0, .int 0, .int 0, .int 0])), (n1, .inr (0, [.ref n2, .ref n3, .ref n4, .ref n5, .int 0])), (n2, .inl (cI, 10, .inl (fun _ => 0))), (n3, .inl (cI, 10, .inl (fun _ => 0))), (n4, .inl (cI, 10, .inl (fun _ => 0))), (n5, .inl (cI, 10, .inl (fun _ => 0))), (n6, .inr (0, [.ref n7, .ref n8, .ref n9, .ref n10, .int 0])), (n7, .inl (cI, 10, .inl (fun _ => 0))), (n8, .inl (cI, 10, .inl (fun _ => 0))), (n9, .inl (cI, 10, .inl (fun _ => 0))), (n10, .inl (cI, 10, .inl (fun _ => 0)))] H := hP
  have hD : va_D A [(sq, .inr (4, [.ref n1, .ref n6, .null, .null, .null, .null, .null, .int 0, .int 0, .int 0, .int 0])), (n1, .inr (0, [.ref n2, .ref n3, .ref n4, .ref n5, .int 0])), (n2, .inl (cI, 10, .inl (fun _ => 0))), (n3, .inl (cI, 10, .inl (fun _ => 0))), (n4, .inl (cI, 10, .inl (fun _ => 0))), (n5, .inl (cI, 10, .inl (fun _ => 0))), (n6, .inr (0, [.ref n7, .ref n8, .ref n9, .ref n10, .int 0])), (n7, .inl (cI, 10, .inl (fun _ => 0))), (n8, .inl (cI, 10, .inl (fun _ => 0))), (n9, .inl (cI, 10, .inl (fun _ => 0))), (n10, .inl (cI, 10, .inl (fun _ => 0)))] := hD
  refine lv_aload_n hx hb d_S_init_26 rfl (lv_at hl 0 rfl) ?_
  refine lv_bipush (v := 10) hx hb d_S_init_27 (by decide) ?_
  refine va_newa (atype := .int) (ty := .int) hx hb hk11 rfl hK hP hD hS hA (N' := 10) (a0 := (10, .inl (fun _ => 0))) (fun _ => rfl) (by decide) (by decide) (by decide) (Nat.le_of_ble_eq_true rfl) (Nat.le_of_ble_eq_true rfl) d_S_init_29 (fun n11 cA H hK9 hP hD hS => ?_)
  have hcA : cI = cA := cA_eq hK9 0 1 rfl rfl (fun _ => Iff.rfl)
  subst hcA
  clear hK9
  have hP : va_P (dC, dI) classes [(sq, .inr (4, [.ref n1, .ref n6, .null, .null, .null, .null, .null, .int 0, .int 0, .int 0, .int 0])), (n1, .inr (0, [.ref n2, .ref n3, .ref n4, .ref n5, .int 0])), (n2, .inl (cI, 10, .inl (fun _ => 0))), (n3, .inl (cI, 10, .inl (fun _ => 0))), (n4, .inl (cI, 10, .inl (fun _ => 0))), (n5, .inl (cI, 10, .inl (fun _ => 0))), (n6, .inr (0, [.ref n7, .ref n8, .ref n9, .ref n10, .int 0])), (n7, .inl (cI, 10, .inl (fun _ => 0))), (n8, .inl (cI, 10, .inl (fun _ => 0))), (n9, .inl (cI, 10, .inl (fun _ => 0))), (n10, .inl (cI, 10, .inl (fun _ => 0))), (n11, .inl (cI, 10, .inl (fun _ => 0)))] H := hP
  have hD : va_D A [(sq, .inr (4, [.ref n1, .ref n6, .null, .null, .null, .null, .null, .int 0, .int 0, .int 0, .int 0])), (n1, .inr (0, [.ref n2, .ref n3, .ref n4, .ref n5, .int 0])), (n2, .inl (cI, 10, .inl (fun _ => 0))), (n3, .inl (cI, 10, .inl (fun _ => 0))), (n4, .inl (cI, 10, .inl (fun _ => 0))), (n5, .inl (cI, 10, .inl (fun _ => 0))), (n6, .inr (0, [.ref n7, .ref n8, .ref n9, .ref n10, .int 0])), (n7, .inl (cI, 10, .inl (fun _ => 0))), (n8, .inl (cI, 10, .inl (fun _ => 0))), (n9, .inl (cI, 10, .inl (fun _ => 0))), (n10, .inl (cI, 10, .inl (fun _ => 0))), (n11, .inl (cI, 10, .inl (fun _ => 0)))] := hD
  refine W.widen (k := 11) (n := 100) (Nat.le_of_ble_eq_true rfl) (Nat.le_of_ble_eq_true rfl) ?_
  refine va_putF (D := (dC, dI)) (ci := 4) (v := .ref n11) (ty := .array .int) (C := R_S) (T := F_S) (N := 11) hx hb hts hk9 t_S t_S_ok n_S hown hK hP hD hS 0 rfl rfl 2 (by decide) hk12 (fun _ h9 => h9) rfl hin rfl (by decide +kernel) rfl rfl (Nat.le_of_ble_eq_true rfl) d_S_init_31 (fun H locs hP hD hS => ?_)
  have hP : va_P (dC, dI) classes [(sq, .inr (4, [.ref n1, .ref n6, .ref n11, .null, .null, .null, .null, .int 0, .int 0, .int 0, .int 0])), (n1, .inr (0, [.ref n2, .ref n3, .ref n4, .ref n5, .int 0])), (n2, .inl (cI, 10, .inl (fun _ => 0))), (n3, .inl (cI, 10, .inl (fun _ => 0))), (n4, .inl (cI, 10, .inl (fun _ => 0))), (n5, .inl (cI, 10, .inl (fun _ => 0))), (n6, .inr (0, [.ref n7, .ref n8, .ref n9, .ref n10, .int 0])), (n7, .inl (cI, 10, .inl (fun _ => 0))), (n8, .inl (cI, 10, .inl (fun _ => 0))), (n9, .inl (cI, 10, .inl (fun _ => 0))), (n10, .inl (cI, 10, .inl (fun _ => 0))), (n11, .inl (cI, 10, .inl (fun _ => 0)))] H := hP
  have hD : va_D A [(sq, .inr (4, [.ref n1, .ref n6, .ref n11, .null, .null, .null, .null, .int 0, .int 0, .int 0, .int 0])), (n1, .inr (0, [.ref n2, .ref n3, .ref n4, .ref n5, .int 0])), (n2, .inl (cI, 10, .inl (fun _ => 0))), (n3, .inl (cI, 10, .inl (fun _ => 0))), (n4, .inl (cI, 10, .inl (fun _ => 0))), (n5, .inl (cI, 10, .inl (fun _ => 0))), (n6, .inr (0, [.ref n7, .ref n8, .ref n9, .ref n10, .int 0])), (n7, .inl (cI, 10, .inl (fun _ => 0))), (n8, .inl (cI, 10, .inl (fun _ => 0))), (n9, .inl (cI, 10, .inl (fun _ => 0))), (n10, .inl (cI, 10, .inl (fun _ => 0))), (n11, .inl (cI, 10, .inl (fun _ => 0)))] := hD
  refine lv_aload_n hx hb d_S_init_34 rfl (lv_at hl 0 rfl) ?_
  refine lv_bipush (v := 100) hx hb d_S_init_35 (by decide) ?_
  refine va_newa (atype := .int) (ty := .int) hx hb hk11 rfl hK hP hD hS hA (N' := 100) (a0 := (100, .inl (fun _ => 0))) (fun _ => rfl) (by decide) (by decide) (by decide) (Nat.le_of_ble_eq_true rfl) (Nat.le_of_ble_eq_true rfl) d_S_init_37 (fun n12 cA H hK9 hP hD hS => ?_)
  have hcA : cI = cA := cA_eq hK9 0 1 rfl rfl (fun _ => Iff.rfl)
  subst hcA
  clear hK9
  have hP : va_P (dC, dI) classes [(sq, .inr (4, [.ref n1, .ref n6, .ref n11, .null, .null, .null, .null, .int 0, .int 0, .int 0, .int 0])), (n1, .inr (0, [.ref n2, .ref n3, .ref n4, .ref n5, .int 0])), (n2, .inl (cI, 10, .inl (fun _ => 0))), (n3, .inl (cI, 10, .inl (fun _ => 0))), (n4, .inl (cI, 10, .inl (fun _ => 0))), (n5, .inl (cI, 10, .inl (fun _ => 0))), (n6, .inr (0, [.ref n7, .ref n8, .ref n9, .ref n10, .int 0])), (n7, .inl (cI, 10, .inl (fun _ => 0))), (n8, .inl (cI, 10, .inl (fun _ => 0))), (n9, .inl (cI, 10, .inl (fun _ => 0))), (n10, .inl (cI, 10, .inl (fun _ => 0))), (n11, .inl (cI, 10, .inl (fun _ => 0))), (n12, .inl (cI, 100, .inl (fun _ => 0)))] H := hP
  have hD : va_D A [(sq, .inr (4, [.ref n1, .ref n6, .ref n11, .null, .null, .null, .null, .int 0, .int 0, .int 0, .int 0])), (n1, .inr (0, [.ref n2, .ref n3, .ref n4, .ref n5, .int 0])), (n2, .inl (cI, 10, .inl (fun _ => 0))), (n3, .inl (cI, 10, .inl (fun _ => 0))), (n4, .inl (cI, 10, .inl (fun _ => 0))), (n5, .inl (cI, 10, .inl (fun _ => 0))), (n6, .inr (0, [.ref n7, .ref n8, .ref n9, .ref n10, .int 0])), (n7, .inl (cI, 10, .inl (fun _ => 0))), (n8, .inl (cI, 10, .inl (fun _ => 0))), (n9, .inl (cI, 10, .inl (fun _ => 0))), (n10, .inl (cI, 10, .inl (fun _ => 0))), (n11, .inl (cI, 10, .inl (fun _ => 0))), (n12, .inl (cI, 100, .inl (fun _ => 0)))] := hD
  refine W.widen (k := 12) (n := 200) (Nat.le_of_ble_eq_true rfl) (Nat.le_of_ble_eq_true rfl) ?_
  refine va_putF (D := (dC, dI)) (ci := 4) (v := .ref n12) (ty := .array .int) (C := R_S) (T := F_S) (N := 11) hx hb hts hk9 t_S t_S_ok n_S hown hK hP hD hS 0 rfl rfl 3 (by decide) hk13 (fun _ h9 => h9) rfl hin rfl (by decide +kernel) rfl rfl (Nat.le_of_ble_eq_true rfl) d_S_init_39 (fun H locs hP hD hS => ?_)
  have hP : va_P (dC, dI) classes [(sq, .inr (4, [.ref n1, .ref n6, .ref n11, .ref n12, .null, .null, .null, .int 0, .int 0, .int 0, .int 0])), (n1, .inr (0, [.ref n2, .ref n3, .ref n4, .ref n5, .int 0])), (n2, .inl (cI, 10, .inl (fun _ => 0))), (n3, .inl (cI, 10, .inl (fun _ => 0))), (n4, .inl (cI, 10, .inl (fun _ => 0))), (n5, .inl (cI, 10, .inl (fun _ => 0))), (n6, .inr (0, [.ref n7, .ref n8, .ref n9, .ref n10, .int 0])), (n7, .inl (cI, 10, .inl (fun _ => 0))), (n8, .inl (cI, 10, .inl (fun _ => 0))), (n9, .inl (cI, 10, .inl (fun _ => 0))), (n10, .inl (cI, 10, .inl (fun _ => 0))), (n11, .inl (cI, 10, .inl (fun _ => 0))), (n12, .inl (cI, 100, .inl (fun _ => 0)))] H := hP
  have hD : va_D A [(sq, .inr (4, [.ref n1, .ref n6, .ref n11, .ref n12, .null, .null, .null, .int 0, .int 0, .int 0, .int 0])), (n1, .inr (0, [.ref n2, .ref n3, .ref n4, .ref n5, .int 0])), (n2, .inl (cI, 10, .inl (fun _ => 0))), (n3, .inl (cI, 10, .inl (fun _ => 0))), (n4, .inl (cI, 10, .inl (fun _ => 0))), (n5, .inl (cI, 10, .inl (fun _ => 0))), (n6, .inr (0, [.ref n7, .ref n8, .ref n9, .ref n10, .int 0])), (n7, .inl (cI, 10, .inl (fun _ => 0))), (n8, .inl (cI, 10, .inl (fun _ => 0))), (n9, .inl (cI, 10, .inl (fun _ => 0))), (n10, .inl (cI, 10, .inl (fun _ => 0))), (n11, .inl (cI, 10, .inl (fun _ => 0))), (n12, .inl (cI, 100, .inl (fun _ => 0)))] := hD
  refine lv_aload_n hx hb d_S_init_42 rfl (lv_at hl 0 rfl) ?_
  refine va_new (ci := 1) (fs := [.null, .int 0]) (C := R_U) (T := F_U) (N := 2) hx hb hts hk14 t_U t_U_ok hown hk15 hk16 hk17 hK hP hD hS hA rfl (fun j hj => by rcases (show j = 0 ∨ j = 1 by omega) with rfl | rfl <;> rfl) (Nat.le_of_ble_eq_true rfl) (Nat.le_of_ble_eq_true rfl) d_S_init_43 (fun n13 H hP hD hS => ?_)
  have hP : va_P (dC, dI) classes [(sq, .inr (4, [.ref n1, .ref n6, .ref n11, .ref n12, .null, .null, .null, .int 0, .int 0, .int 0, .int 0])), (n1, .inr (0, [.ref n2, .ref n3, .ref n4, .ref n5, .int 0])), (n2, .inl (cI, 10, .inl (fun _ => 0))), (n3, .inl (cI, 10, .inl (fun _ => 0))), (n4, .inl (cI, 10, .inl (fun _ => 0))), (n5, .inl (cI, 10, .inl (fun _ => 0))), (n6, .inr (0, [.ref n7, .ref n8, .ref n9, .ref n10, .int 0])), (n7, .inl (cI, 10, .inl (fun _ => 0))), (n8, .inl (cI, 10, .inl (fun _ => 0))), (n9, .inl (cI, 10, .inl (fun _ => 0))), (n10, .inl (cI, 10, .inl (fun _ => 0))), (n11, .inl (cI, 10, .inl (fun _ => 0))), (n12, .inl (cI, 100, .inl (fun _ => 0))), (n13, .inr (1, [.null, .int 0]))] H := hP
  have hD : va_D A [(sq, .inr (4, [.ref n1, .ref n6, .ref n11, .ref n12, .null, .null, .null, .int 0, .int 0, .int 0, .int 0])), (n1, .inr (0, [.ref n2, .ref n3, .ref n4, .ref n5, .int 0])), (n2, .inl (cI, 10, .inl (fun _ => 0))), (n3, .inl (cI, 10, .inl (fun _ => 0))), (n4, .inl (cI, 10, .inl (fun _ => 0))), (n5, .inl (cI, 10, .inl (fun _ => 0))), (n6, .inr (0, [.ref n7, .ref n8, .ref n9, .ref n10, .int 0])), (n7, .inl (cI, 10, .inl (fun _ => 0))), (n8, .inl (cI, 10, .inl (fun _ => 0))), (n9, .inl (cI, 10, .inl (fun _ => 0))), (n10, .inl (cI, 10, .inl (fun _ => 0))), (n11, .inl (cI, 10, .inl (fun _ => 0))), (n12, .inl (cI, 100, .inl (fun _ => 0))), (n13, .inr (1, [.null, .int 0]))] := hD
  refine W.widen (k := 13) (n := 202) (Nat.le_of_ble_eq_true rfl) (Nat.le_of_ble_eq_true rfl) ?_
  refine lv_dup hx hb d_S_init_46 rfl ?_
  have hPc := hP.sub (ws' := [(n13, .inr (1, [.null, .int 0]))]) [13] rfl
  have hDc := hD.sub (ws' := [(n13, .inr (1, [.null, .int 0]))]) [13] (by decide) rfl
  have hFc := va_free (wc := [(n13, .inr (1, [.null, .int 0]))]) hD hS hA [13] rfl
  refine va_callv (va_runI (As := []) (rest := [.ref n13, .ref sq]) ⟨hx, hb, hml, hown, hts⟩ (c_U_init l dC dI cI n13 H.size) (cwI 0 hts (gN (w0 79 rfl)) rfl rfl rfl hk17 hk18 hk19 rfl q_U_init.2 ⟨Nat.le_of_ble_eq_true rfl, Nat.le_of_ble_eq_true rfl⟩) (wr_preS hK hPc hDc hN) rfl rfl hl.1 rfl (lv_room (Nat.le_of_ble_eq_true rfl)) d_S_init_47 ⟨Nat.le_of_ble_eq_true rfl, Nat.le_of_ble_eq_true rfl⟩) hS (fun q _ h => hFc q h) hFc (fun u t H1 locs ht hvm hw hB hz1 hk1 hS => ?_)
  obtain ⟨n14, rfl⟩ : ∃ z, z = u := ⟨_, rfl⟩
  obtain ⟨hP1, hK1, hD1⟩ := hB
  rw [ht] at hP1
  obtain ⟨hP, hD⟩ := va_join (wr := [(sq, .inr (4, [.ref n1, .ref n6, .ref n11, .ref n12, .null, .null, .null, .int 0, .int 0, .int 0, .int 0])), (n1, .inr (0, [.ref n2, .ref n3, .ref n4, .ref n5, .int 0])), (n2, .inl (cI, 10, .inl (fun _ => 0))), (n3, .inl (cI, 10, .inl (fun _ => 0))), (n4, .inl (cI, 10, .inl (fun _ => 0))), (n5, .inl (cI, 10, .inl (fun _ => 0))), (n6, .inr (0, [.ref n7, .ref n8, .ref n9, .ref n10, .int 0])), (n7, .inl (cI, 10, .inl (fun _ => 0))), (n8, .inl (cI, 10, .inl (fun _ => 0))), (n9, .inl (cI, 10, .inl (fun _ => 0))), (n10, .inl (cI, 10, .inl (fun _ => 0))), (n11, .inl (cI, 10, .inl (fun _ => 0))), (n12, .inl (cI, 100, .inl (fun _ => 0)))]) (w1 := [(n13, .inr (1, [.ref n14, .int 0])), (n14, .inl (cI, 10, .inl (fun _ => 0)))]) hP hD [13] [0, 1, 2, 3, 4, 5, 6, 7, 8, 9, 10, 11, 12] rfl rfl (by decide) (by decide) hk1 hFc hP1 hD1
  generalize H1 = H at hP hS ⊢
  have hP : va_P (dC, dI) classes [(sq, .inr (4, [.ref n1, .ref n6, .ref n11, .ref n12, .null, .null, .null, .int 0, .int 0, .int 0, .int 0])), (n1, .inr (0, [.ref n2, .ref n3, .ref n4, .ref n5, .int 0])), (n2, .inl (cI, 10, .inl (fun _ => 0))), (n3, .inl (cI, 10, .inl (fun _ => 0))), (n4, .inl (cI, 10, .inl (fun _ => 0))), (n5, .inl (cI, 10, .inl (fun _ => 0))), (n6, .inr (0, [.ref n7, .ref n8, .ref n9, .ref n10, .int 0])), (n7, .inl (cI, 10, .inl (fun _ => 0))), (n8, .inl (cI, 10, .inl (fun _ => 0))), (n9, .inl (cI, 10, .inl (fun _ => 0))), (n10, .inl (cI, 10, .inl (fun _ => 0))), (n11, .inl (cI, 10, .inl (fun _ => 0))), (n12, .inl (cI, 100, .inl (fun _ => 0))), (n13, .inr (1, [.ref n14, .int 0])), (n14, .inl (cI, 10, .inl (fun _ => 0)))] H := hP
  have hD : va_D A [(sq, .inr (4, [.ref n1, .ref n6, .ref n11, .ref n12, .null, .null, .null, .int 0, .int 0, .int 0, .int 0])), (n1, .inr (0, [.ref n2, .ref n3, .ref n4, .ref n5, .int 0])), (n2, .inl (cI, 10, .inl (fun _ => 0))), (n3, .inl (cI, 10, .inl (fun _ => 0))), (n4, .inl (cI, 10, .inl (fun _ => 0))), (n5, .inl (cI, 10, .inl (fun _ => 0))), (n6, .inr (0, [.ref n7, .ref n8, .ref n9, .ref n10, .int 0])), (n7, .inl (cI, 10, .inl (fun _ => 0))), (n8, .inl (cI, 10, .inl (fun _ => 0))), (n9, .inl (cI, 10, .inl (fun _ => 0))), (n10, .inl (cI, 10, .inl (fun _ => 0))), (n11, .inl (cI, 10, .inl (fun _ => 0))), (n12, .inl (cI, 100, .inl (fun _ => 0))), (n13, .inr (1, [.ref n14, .int 0])), (n14, .inl (cI, 10, .inl (fun _ => 0)))] := hD
  clear hP1 hD1 hPc hDc hFc hk1 hz1
  refine W.widen (k := 14) (n := 212) (Nat.le_of_ble_eq_true rfl) (Nat.le_of_ble_eq_true rfl) ?_
  refine va_putF (D := (dC, dI)) (ci := 4) (v := .ref n13) (ty := .object "SurplusMatch$Uses") (C := R_S) (T := F_S) (N := 11) hx hb hts hk9 t_S t_S_ok n_S hown hK hP hD hS 0 rfl rfl 4 (by decide) hk20 (fun _ h9 => h9) rfl hin rfl (by decide +kernel) rfl rfl (Nat.le_of_ble_eq_true rfl) d_S_init_50 (fun H locs hP hD hS => ?_)
  have hP : va_P (dC, dI) classes [(sq, .inr (4, [.ref n1, .ref n6, .ref n11, .ref n12, .ref n13, .null, .null, .int 0, .int 0, .int 0, .int 0])), (n1, .inr (0, [.ref n2, .ref n3, .ref n4, .ref n5, .int 0])), (n2, .inl (cI, 10, .inl (fun _ => 0))), (n3, .inl (cI, 10, .inl (fun _ => 0))), (n4, .inl (cI, 10, .inl (fun _ => 0))), (n5, .inl (cI, 10, .inl (fun _ => 0))), (n6, .inr (0, [.ref n7, .ref n8, .ref n9, .ref n10, .int 0])), (n7, .inl (cI, 10, .inl (fun _ => 0))), (n8, .inl (cI, 10, .inl (fun _ => 0))), (n9, .inl (cI, 10, .inl (fun _ => 0))), (n10, .inl (cI, 10, .inl (fun _ => 0))), (n11, .inl (cI, 10, .inl (fun _ => 0))), (n12, .inl (cI, 100, .inl (fun _ => 0))), (n13, .inr (1, [.ref n14, .int 0])), (n14, .inl (cI, 10, .inl (fun _ => 0)))] H := hP
  have hD : va_D A [(sq, .inr (4, [.ref n1, .ref n6, .ref n11, .ref n12, .ref n13, .null, .null, .int 0, .int 0, .int 0, .int 0])), (n1, .inr (0, [.ref n2, .ref n3, .ref n4, .ref n5, .int 0])), (n2, .inl (cI, 10, .inl (fun _ => 0))), (n3, .inl (cI, 10, .inl (fun _ => 0))), (n4, .inl (cI, 10, .inl (fun _ => 0))), (n5, .inl (cI, 10, .inl (fun _ => 0))), (n6, .inr (0, [.ref n7, .ref n8, .ref n9, .ref n10, .int 0])), (n7, .inl (cI, 10, .inl (fun _ => 0))), (n8, .inl (cI, 10, .inl (fun _ => 0))), (n9, .inl (cI, 10, .inl (fun _ => 0))), (n10, .inl (cI, 10, .inl (fun _ => 0))), (n11, .inl (cI, 10, .inl (fun _ => 0))), (n12, .inl (cI, 100, .inl (fun _ => 0))), (n13, .inr (1, [.ref n14, .int 0])), (n14, .inl (cI, 10, .inl (fun _ => 0)))] := hD
  refine lv_aload_n hx hb d_S_init_53 rfl (lv_at hl 0 rfl) ?_
  refine va_new (ci := 2) (fs := [.null, .null, .int 0]) (C := R_H) (T := F_H) (N := 3) hx hb hts hk21 t_H t_H_ok hown hk22 hk23 hk24 hK hP hD hS hA rfl (fun j hj => by rcases (show j = 0 ∨ j = 1 ∨ j = 2 by omega) with rfl | rfl | rfl <;> rfl) (Nat.le_of_ble_eq_true rfl) (Nat.le_of_ble_eq_true rfl) d_S_init_54 (fun n15 H hP hD hS => ?_)
  have hP : va_P (dC, dI) classes [(sq, .inr (4, [.ref n1, .ref n6, .ref n11, .ref n12, .ref n13, .null, .null, .int 0, .int 0, .int 0, .int 0])), (n1, .inr (0, [.ref n2, .ref n3, .ref n4, .ref n5, .int 0])), (n2, .inl (cI, 10, .inl (fun _ => 0))), (n3, .inl (cI, 10, .inl (fun _ => 0))), (n4, .inl (cI, 10, .inl (fun _ => 0))), (n5, .inl (cI, 10, .inl (fun _ => 0))), (n6, .inr (0, [.ref n7, .ref n8, .ref n9, .ref n10, .int 0])), (n7, .inl (cI, 10, .inl (fun _ => 0))), (n8, .inl (cI, 10, .inl (fun _ => 0))), (n9, .inl (cI, 10, .inl (fun _ => 0))), (n10, .inl (cI, 10, .inl (fun _ => 0))), (n11, .inl (cI, 10, .inl (fun _ => 0))), (n12, .inl (cI, 100, .inl (fun _ => 0))), (n13, .inr (1, [.ref n14, .int 0])), (n14, .inl (cI, 10, .inl (fun _ => 0))), (n15, .inr (2, [.null, .null, .int 0]))] H := hP
  have hD : va_D A [(sq, .inr (4, [.ref n1, .ref n6, .ref n11, .ref n12, .ref n13, .null, .null, .int 0, .int 0, .int 0, .int 0])), (n1, .inr (0, [.ref n2, .ref n3, .ref n4, .ref n5, .int 0])), (n2, .inl (cI, 10, .inl (fun _ => 0))), (n3, .inl (cI, 10, .inl (fun _ => 0))), (n4, .inl (cI, 10, .inl (fun _ => 0))), (n5, .inl (cI, 10, .inl (fun _ => 0))), (n6, .inr (0, [.ref n7, .ref n8, .ref n9, .ref n10, .int 0])), (n7, .inl (cI, 10, .inl (fun _ => 0))), (n8, .inl (cI, 10, .inl (fun _ => 0))), (n9, .inl (cI, 10, .inl (fun _ => 0))), (n10, .inl (cI, 10, .inl (fun _ => 0))), (n11, .inl (cI, 10, .inl (fun _ => 0))), (n12, .inl (cI, 100, .inl (fun _ => 0))), (n13, .inr (1, [.ref n14, .int 0])), (n14, .inl (cI, 10, .inl (fun _ => 0))), (n15, .inr (2, [.null, .null, .int 0]))] := hD
  refine W.widen (k := 15) (n := 215) (Nat.le_of_ble_eq_true rfl) (Nat.le_of_ble_eq_true rfl) ?_
  refine lv_dup hx hb d_S_init_57 rfl ?_
  have hPc := hP.sub (ws' := [(n15, .inr (2, [.null, .null, .int 0]))]) [15] rfl
  have hDc := hD.sub (ws' := [(n15, .inr (2, [.null, .null, .int 0]))]) [15] (by decide) rfl
  have hFc := va_free (wc := [(n15, .inr (2, [.null, .null, .int 0]))]) hD hS hA [15] rfl
  refine va_callv (va_runI (As := []) (rest := [.ref n15, .ref sq]) ⟨hx, hb, hml, hown, hts⟩ (c_H_init l dC dI cI n15 H.size) (cwI 0 hts (gN (w0 92 rfl)) rfl rfl rfl hk24 hk25 hk26 rfl q_H_init.2 ⟨Nat.le_of_ble_eq_true rfl, Nat.le_of_ble_eq_true rfl⟩) (wr_preS hK hPc hDc hN) rfl rfl hl.1 rfl (lv_room (Nat.le_of_ble_eq_true rfl)) d_S_init_58 ⟨Nat.le_of_ble_eq_true rfl, Nat.le_of_ble_eq_true rfl⟩) hS (fun q _ h => hFc q h) hFc (fun u t H1 locs ht hvm hw hB hz1 hk1 hS => ?_)
  obtain ⟨n16, n17⟩ := u
  obtain ⟨hP1, hK1, hD1⟩ := hB
  rw [ht] at hP1
  obtain ⟨hP, hD⟩ := va_join (wr := [(sq, .inr (4, [.ref n1, .ref n6, .ref n11, .ref n12, .ref n13, .null, .null, .int 0, .int 0, .int 0, .int 0])), (n1, .inr (0, [.ref n2, .ref n3, .ref n4, .ref n5, .int 0])), (n2, .inl (cI, 10, .inl (fun _ => 0))), (n3, .inl (cI, 10, .inl (fun _ => 0))), (n4, .inl (cI, 10, .inl (fun _ => 0))), (n5, .inl (cI, 10, .inl (fun _ => 0))), (n6, .inr (0, [.ref n7, .ref n8, .ref n9, .ref n10, .int 0])), (n7, .inl (cI, 10, .inl (fun _ => 0))), (n8, .inl (cI, 10, .inl (fun _ => 0))), (n9, .inl (cI, 10, .inl (fun _ => 0))), (n10, .inl (cI, 10, .inl (fun _ => 0))), (n11, .inl (cI, 10, .inl (fun _ => 0))), (n12, .inl (cI, 100, .inl (fun _ => 0))), (n13, .inr (1, [.ref n14, .int 0])), (n14, .inl (cI, 10, .inl (fun _ => 0)))]) (w1 := [(n15, .inr (2, [.ref n16, .ref n17, .int 0])), (n16, .inl (cI, 10, .inl (upd (upd (upd (upd (upd (upd (upd (upd (upd (upd (fun _ => 0) (0 : Int32).toNatClampNeg (-1)) (1 : Int32).toNatClampNeg (-1)) (2 : Int32).toNatClampNeg (-1)) (3 : Int32).toNatClampNeg (-1)) (4 : Int32).toNatClampNeg (-1)) (5 : Int32).toNatClampNeg (-1)) (6 : Int32).toNatClampNeg (-1)) (7 : Int32).toNatClampNeg (-1)) (8 : Int32).toNatClampNeg (-1)) (9 : Int32).toNatClampNeg (-1)))), (n17, .inl (cI, 10, .inl (fun _ => 0)))]) hP hD [15] [0, 1, 2, 3, 4, 5, 6, 7, 8, 9, 10, 11, 12, 13, 14] rfl rfl (by decide) (by decide) hk1 hFc hP1 hD1
  generalize H1 = H at hP hS ⊢
  have hP : va_P (dC, dI) classes [(sq, .inr (4, [.ref n1, .ref n6, .ref n11, .ref n12, .ref n13, .null, .null, .int 0, .int 0, .int 0, .int 0])), (n1, .inr (0, [.ref n2, .ref n3, .ref n4, .ref n5, .int 0])), (n2, .inl (cI, 10, .inl (fun _ => 0))), (n3, .inl (cI, 10, .inl (fun _ => 0))), (n4, .inl (cI, 10, .inl (fun _ => 0))), (n5, .inl (cI, 10, .inl (fun _ => 0))), (n6, .inr (0, [.ref n7, .ref n8, .ref n9, .ref n10, .int 0])), (n7, .inl (cI, 10, .inl (fun _ => 0))), (n8, .inl (cI, 10, .inl (fun _ => 0))), (n9, .inl (cI, 10, .inl (fun _ => 0))), (n10, .inl (cI, 10, .inl (fun _ => 0))), (n11, .inl (cI, 10, .inl (fun _ => 0))), (n12, .inl (cI, 100, .inl (fun _ => 0))), (n13, .inr (1, [.ref n14, .int 0])), (n14, .inl (cI, 10, .inl (fun _ => 0))), (n15, .inr (2, [.ref n16, .ref n17, .int 0])), (n16, .inl (cI, 10, .inl (upd (upd (upd (upd (upd (upd (upd (upd (upd (upd (fun _ => 0) (0 : Int32).toNatClampNeg (-1)) (1 : Int32).toNatClampNeg (-1)) (2 : Int32).toNatClampNeg (-1)) (3 : Int32).toNatClampNeg (-1)) (4 : Int32).toNatClampNeg (-1)) (5 : Int32).toNatClampNeg (-1)) (6 : Int32).toNatClampNeg (-1)) (7 : Int32).toNatClampNeg (-1)) (8 : Int32).toNatClampNeg (-1)) (9 : Int32).toNatClampNeg (-1)))), (n17, .inl (cI, 10, .inl (fun _ => 0)))] H := hP
  have hD : va_D A [(sq, .inr (4, [.ref n1, .ref n6, .ref n11, .ref n12, .ref n13, .null, .null, .int 0, .int 0, .int 0, .int 0])), (n1, .inr (0, [.ref n2, .ref n3, .ref n4, .ref n5, .int 0])), (n2, .inl (cI, 10, .inl (fun _ => 0))), (n3, .inl (cI, 10, .inl (fun _ => 0))), (n4, .inl (cI, 10, .inl (fun _ => 0))), (n5, .inl (cI, 10, .inl (fun _ => 0))), (n6, .inr (0, [.ref n7, .ref n8, .ref n9, .ref n10, .int 0])), (n7, .inl (cI, 10, .inl (fun _ => 0))), (n8, .inl (cI, 10, .inl (fun _ => 0))), (n9, .inl (cI, 10, .inl (fun _ => 0))), (n10, .inl (cI, 10, .inl (fun _ => 0))), (n11, .inl (cI, 10, .inl (fun _ => 0))), (n12, .inl (cI, 100, .inl (fun _ => 0))), (n13, .inr (1, [.ref n14, .int 0])), (n14, .inl (cI, 10, .inl (fun _ => 0))), (n15, .inr (2, [.ref n16, .ref n17, .int 0])), (n16, .inl (cI, 10, .inl (upd (upd (upd (upd (upd (upd (upd (upd (upd (upd (fun _ => 0) (0 : Int32).toNatClampNeg (-1)) (1 : Int32).toNatClampNeg (-1)) (2 : Int32).toNatClampNeg (-1)) (3 : Int32).toNatClampNeg (-1)) (4 : Int32).toNatClampNeg (-1)) (5 : Int32).toNatClampNeg (-1)) (6 : Int32).toNatClampNeg (-1)) (7 : Int32).toNatClampNeg (-1)) (8 : Int32).toNatClampNeg (-1)) (9 : Int32).toNatClampNeg (-1)))), (n17, .inl (cI, 10, .inl (fun _ => 0)))] := hD
  clear hP1 hD1 hPc hDc hFc hk1 hz1
  refine W.widen (k := 17) (n := 235) (Nat.le_of_ble_eq_true rfl) (Nat.le_of_ble_eq_true rfl) ?_
  refine va_putF (D := (dC, dI)) (ci := 4) (v := .ref n15) (ty := .object "SurplusMatch$Holds") (C := R_S) (T := F_S) (N := 11) hx hb hts hk9 t_S t_S_ok n_S hown hK hP hD hS 0 rfl rfl 5 (by decide) hk27 (fun _ h9 => h9) rfl hin rfl (by decide +kernel) rfl rfl (Nat.le_of_ble_eq_true rfl) d_S_init_61 (fun H locs hP hD hS => ?_)
  have hP : va_P (dC, dI) classes [(sq, .inr (4, [.ref n1, .ref n6, .ref n11, .ref n12, .ref n13, .ref n15, .null, .int 0, .int 0, .int 0, .int 0])), (n1, .inr (0, [.ref n2, .ref n3, .ref n4, .ref n5, .int 0])), (n2, .inl (cI, 10, .inl (fun _ => 0))), (n3, .inl (cI, 10, .inl (fun _ => 0))), (n4, .inl (cI, 10, .inl (fun _ => 0))), (n5, .inl (cI, 10, .inl (fun _ => 0))), (n6, .inr (0, [.ref n7, .ref n8, .ref n9, .ref n10, .int 0])), (n7, .inl (cI, 10, .inl (fun _ => 0))), (n8, .inl (cI, 10, .inl (fun _ => 0))), (n9, .inl (cI, 10, .inl (fun _ => 0))), (n10, .inl (cI, 10, .inl (fun _ => 0))), (n11, .inl (cI, 10, .inl (fun _ => 0))), (n12, .inl (cI, 100, .inl (fun _ => 0))), (n13, .inr (1, [.ref n14, .int 0])), (n14, .inl (cI, 10, .inl (fun _ => 0))), (n15, .inr (2, [.ref n16, .ref n17, .int 0])), (n16, .inl (cI, 10, .inl (upd (upd (upd (upd (upd (upd (upd (upd (upd (upd (fun _ => 0) (0 : Int32).toNatClampNeg (-1)) (1 : Int32).toNatClampNeg (-1)) (2 : Int32).toNatClampNeg (-1)) (3 : Int32).toNatClampNeg (-1)) (4 : Int32).toNatClampNeg (-1)) (5 : Int32).toNatClampNeg (-1)) (6 : Int32).toNatClampNeg (-1)) (7 : Int32).toNatClampNeg (-1)) (8 : Int32).toNatClampNeg (-1)) (9 : Int32).toNatClampNeg (-1)))), (n17, .inl (cI, 10, .inl (fun _ => 0)))] H := hP
  have hD : va_D A [(sq, .inr (4, [.ref n1, .ref n6, .ref n11, .ref n12, .ref n13, .ref n15, .null, .int 0, .int 0, .int 0, .int 0])), (n1, .inr (0, [.ref n2, .ref n3, .ref n4, .ref n5, .int 0])), (n2, .inl (cI, 10, .inl (fun _ => 0))), (n3, .inl (cI, 10, .inl (fun _ => 0))), (n4, .inl (cI, 10, .inl (fun _ => 0))), (n5, .inl (cI, 10, .inl (fun _ => 0))), (n6, .inr (0, [.ref n7, .ref n8, .ref n9, .ref n10, .int 0])), (n7, .inl (cI, 10, .inl (fun _ => 0))), (n8, .inl (cI, 10, .inl (fun _ => 0))), (n9, .inl (cI, 10, .inl (fun _ => 0))), (n10, .inl (cI, 10, .inl (fun _ => 0))), (n11, .inl (cI, 10, .inl (fun _ => 0))), (n12, .inl (cI, 100, .inl (fun _ => 0))), (n13, .inr (1, [.ref n14, .int 0])), (n14, .inl (cI, 10, .inl (fun _ => 0))), (n15, .inr (2, [.ref n16, .ref n17, .int 0])), (n16, .inl (cI, 10, .inl (upd (upd (upd (upd (upd (upd (upd (upd (upd (upd (fun _ => 0) (0 : Int32).toNatClampNeg (-1)) (1 : Int32).toNatClampNeg (-1)) (2 : Int32).toNatClampNeg (-1)) (3 : Int32).toNatClampNeg (-1)) (4 : Int32).toNatClampNeg (-1)) (5 : Int32).toNatClampNeg (-1)) (6 : Int32).toNatClampNeg (-1)) (7 : Int32).toNatClampNeg (-1)) (8 : Int32).toNatClampNeg (-1)) (9 : Int32).toNatClampNeg (-1)))), (n17, .inl (cI, 10, .inl (fun _ => 0)))] := hD
  refine lv_aload_n hx hb d_S_init_64 rfl (lv_at hl 0 rfl) ?_
  refine va_new (ci := 3) (fs := [.null, .null, .null, .null, .null, .int 0, .int 0, .int 0, .int 0, .int 0]) (C := R_M) (T := F_M) (N := 10) hx hb hts hk28 t_M t_M_ok hown hk29 hk30 hk31 hK hP hD hS hA rfl (fun j hj => by rcases (show j = 0 ∨ j = 1 ∨ j = 2 ∨ j = 3 ∨ j = 4 ∨ j = 5 ∨ j = 6 ∨ j = 7 ∨ j = 8 ∨ j = 9 by omega) with rfl | rfl | rfl | rfl | rfl | rfl | rfl | rfl | rfl | rfl <;> rfl) (Nat.le_of_ble_eq_true rfl) (Nat.le_of_ble_eq_true rfl) d_S_init_65 (fun n18 H hP hD hS => ?_)
  have hP : va_P (dC, dI) classes [(sq, .inr (4, [.ref n1, .ref n6, .ref n11, .ref n12, .ref n13, .ref n15, .null, .int 0, .int 0, .int 0, .int 0])), (n1, .inr (0, [.ref n2, .ref n3, .ref n4, .ref n5, .int 0])), (n2, .inl (cI, 10, .inl (fun _ => 0))), (n3, .inl (cI, 10, .inl (fun _ => 0))), (n4, .inl (cI, 10, .inl (fun _ => 0))), (n5, .inl (cI, 10, .inl (fun _ => 0))), (n6, .inr (0, [.ref n7, .ref n8, .ref n9, .ref n10, .int 0])), (n7, .inl (cI, 10, .inl (fun _ => 0))), (n8, .inl (cI, 10, .inl (fun _ => 0))), (n9, .inl (cI, 10, .inl (fun _ => 0))), (n10, .inl (cI, 10, .inl (fun _ => 0))), (n11, .inl (cI, 10, .inl (fun _ => 0))), (n12, .inl (cI, 100, .inl (fun _ => 0))), (n13, .inr (1, [.ref n14, .int 0])), (n14, .inl (cI, 10, .inl (fun _ => 0))), (n15, .inr (2, [.ref n16, .ref n17, .int 0])), (n16, .inl (cI, 10, .inl (upd (upd (upd (upd (upd (upd (upd (upd (upd (upd (fun _ => 0) (0 : Int32).toNatClampNeg (-1)) (1 : Int32).toNatClampNeg (-1)) (2 : Int32).toNatClampNeg (-1)) (3 : Int32).toNatClampNeg (-1)) (4 : Int32).toNatClampNeg (-1)) (5 : Int32).toNatClampNeg (-1)) (6 : Int32).toNatClampNeg (-1)) (7 : Int32).toNatClampNeg (-1)) (8 : Int32).toNatClampNeg (-1)) (9 : Int32).toNatClampNeg (-1)))), (n17, .inl (cI, 10, .inl (fun _ => 0))), (n18, .inr (3, [.null, .null, .null, .null, .null, .int 0, .int 0, .int 0, .int 0, .int 0]))] H := hP
  have hD : va_D A [(sq, .inr (4, [.ref n1, .ref n6, .ref n11, .ref n12, .ref n13, .ref n15, .null, .int 0, .int 0, .int 0, .int 0])), (n1, .inr (0, [.ref n2, .ref n3, .ref n4, .ref n5, .int 0])), (n2, .inl (cI, 10, .inl (fun _ => 0))), (n3, .inl (cI, 10, .inl (fun _ => 0))), (n4, .inl (cI, 10, .inl (fun _ => 0))), (n5, .inl (cI, 10, .inl (fun _ => 0))), (n6, .inr (0, [.ref n7, .ref n8, .ref n9, .ref n10, .int 0])), (n7, .inl (cI, 10, .inl (fun _ => 0))), (n8, .inl (cI, 10, .inl (fun _ => 0))), (n9, .inl (cI, 10, .inl (fun _ => 0))), (n10, .inl (cI, 10, .inl (fun _ => 0))), (n11, .inl (cI, 10, .inl (fun _ => 0))), (n12, .inl (cI, 100, .inl (fun _ => 0))), (n13, .inr (1, [.ref n14, .int 0])), (n14, .inl (cI, 10, .inl (fun _ => 0))), (n15, .inr (2, [.ref n16, .ref n17, .int 0])), (n16, .inl (cI, 10, .inl (upd (upd (upd (upd (upd (upd (upd (upd (upd (upd (fun _ => 0) (0 : Int32).toNatClampNeg (-1)) (1 : Int32).toNatClampNeg (-1)) (2 : Int32).toNatClampNeg (-1)) (3 : Int32).toNatClampNeg (-1)) (4 : Int32).toNatClampNeg (-1)) (5 : Int32).toNatClampNeg (-1)) (6 : Int32).toNatClampNeg (-1)) (7 : Int32).toNatClampNeg (-1)) (8 : Int32).toNatClampNeg (-1)) (9 : Int32).toNatClampNeg (-1)))), (n17, .inl (cI, 10, .inl (fun _ => 0))), (n18, .inr (3, [.null, .null, .null, .null, .null, .int 0, .int 0, .int 0, .int 0, .int 0]))] := hD
  refine W.widen (k := 18) (n := 245) (Nat.le_of_ble_eq_true rfl) (Nat.le_of_ble_eq_true rfl) ?_
  refine lv_dup hx hb d_S_init_68 rfl ?_
  have hPc := hP.sub (ws' := [(n18, .inr (3, [.null, .null, .null, .null, .null, .int 0, .int 0, .int 0, .int 0, .int 0]))]) [18] rfl
  have hDc := hD.sub (ws' := [(n18, .inr (3, [.null, .null, .null, .null, .null, .int 0, .int 0, .int 0, .int 0, .int 0]))]) [18] (by decide) rfl
  have hFc := va_free (wc := [(n18, .inr (3, [.null, .null, .null, .null, .null, .int 0, .int 0, .int 0, .int 0, .int 0]))]) hD hS hA [18] rfl
  refine va_callv (va_runI (As := []) (rest := [.ref n18, .ref sq]) ⟨hx, hb, hml, hown, hts⟩ (c_M_init l dC dI cI n18 H.size) (cwI 0 hts (gN (w0 108 rfl)) rfl rfl rfl hk31 hk32 hk33 rfl q_M_init.2 ⟨Nat.le_of_ble_eq_true rfl, Nat.le_of_ble_eq_true rfl⟩) (wr_preS hK hPc hDc hN) rfl rfl hl.1 rfl (lv_room (Nat.le_of_ble_eq_true rfl)) d_S_init_69 ⟨Nat.le_of_ble_eq_true rfl, Nat.le_of_ble_eq_true rfl⟩) hS (fun q _ h => hFc q h) hFc (fun u t H1 locs ht hvm hw hB hz1 hk1 hS => ?_)
  obtain ⟨n19, n20, n21, n22, n23⟩ := u
  obtain ⟨hP1, hK1, hD1⟩ := hB
  rw [ht] at hP1
  obtain ⟨hP, hD⟩ := va_join (wr := [(sq, .inr (4, [.ref n1, .ref n6, .ref n11, .ref n12, .ref n13, .ref n15, .null, .int 0, .int 0, .int 0, .int 0])), (n1, .inr (0, [.ref n2, .ref n3, .ref n4, .ref n5, .int 0])), (n2, .inl (cI, 10, .inl (fun _ => 0))), (n3, .inl (cI, 10, .inl (fun _ => 0))), (n4, .inl (cI, 10, .inl (fun _ => 0))), (n5, .inl (cI, 10, .inl (fun _ => 0))), (n6, .inr (0, [.ref n7, .ref n8, .ref n9, .ref n10, .int 0])), (n7, .inl (cI, 10, .inl (fun _ => 0))), (n8, .inl (cI, 10, .inl (fun _ => 0))), (n9, .inl (cI, 10, .inl (fun _ => 0))), (n10, .inl (cI, 10, .inl (fun _ => 0))), (n11, .inl (cI, 10, .inl (fun _ => 0))), (n12, .inl (cI, 100, .inl (fun _ => 0))), (n13, .inr (1, [.ref n14, .int 0])), (n14, .inl (cI, 10, .inl (fun _ => 0))), (n15, .inr (2, [.ref n16, .ref n17, .int 0])), (n16, .inl (cI, 10, .inl (upd (upd (upd (upd (upd (upd (upd (upd (upd (upd (fun _ => 0) (0 : Int32).toNatClampNeg (-1)) (1 : Int32).toNatClampNeg (-1)) (2 : Int32).toNatClampNeg (-1)) (3 : Int32).toNatClampNeg (-1)) (4 : Int32).toNatClampNeg (-1)) (5 : Int32).toNatClampNeg (-1)) (6 : Int32).toNatClampNeg (-1)) (7 : Int32).toNatClampNeg (-1)) (8 : Int32).toNatClampNeg (-1)) (9 : Int32).toNatClampNeg (-1)))), (n17, .inl (cI, 10, .inl (fun _ => 0)))]) (w1 := [(n18, .inr (3, [.ref n19, .ref n20, .ref n21, .ref n22, .ref n23, .int 0, .int 0, .int 0, .int 0, .int 0])), (n19, .inl (cI, 100, .inl (fun _ => 0))), (n20, .inl (cI, 11264, .inl (fun _ => 0))), (n21, .inl (cI, 10, .inl (fun _ => 0))), (n22, .inl (cI, 10, .inl (fun _ => 0))), (n23, .inl (cI, 10, .inl (fun _ => 0)))]) hP hD [18] [0, 1, 2, 3, 4, 5, 6, 7, 8, 9, 10, 11, 12, 13, 14, 15, 16, 17] rfl rfl (by decide) (by decide) hk1 hFc hP1 hD1
  generalize H1 = H at hP hS ⊢
  have hP : va_P (dC, dI) classes [(sq, .inr (4, [.ref n1, .ref n6, .ref n11, .ref n12, .ref n13, .ref n15, .null, .int 0, .int 0, .int 0, .int 0])), (n1, .inr (0, [.ref n2, .ref n3, .ref n4, .ref n5, .int 0])), (n2, .inl (cI, 10, .inl (fun _ => 0))), (n3, .inl (cI, 10, .inl (fun _ => 0))), (n4, .inl (cI, 10, .inl (fun _ => 0))), (n5, .inl (cI, 10, .inl (fun _ => 0))), (n6, .inr (0, [.ref n7, .ref n8, .ref n9, .ref n10, .int 0])), (n7, .inl (cI, 10, .inl (fun _ => 0))), (n8, .inl (cI, 10, .inl (fun _ => 0))), (n9, .inl (cI, 10, .inl (fun _ => 0))), (n10, .inl (cI, 10, .inl (fun _ => 0))), (n11, .inl (cI, 10, .inl (fun _ => 0))), (n12, .inl (cI, 100, .inl (fun _ => 0))), (n13, .inr (1, [.ref n14, .int 0])), (n14, .inl (cI, 10, .inl (fun _ => 0))), (n15, .inr (2, [.ref n16, .ref n17, .int 0])), (n16, .inl (cI, 10, .inl (upd (upd (upd (upd (upd (upd (upd (upd (upd (upd (fun _ => 0) (0 : Int32).toNatClampNeg (-1)) (1 : Int32).toNatClampNeg (-1)) (2 : Int32).toNatClampNeg (-1)) (3 : Int32).toNatClampNeg (-1)) (4 : Int32).toNatClampNeg (-1)) (5 : Int32).toNatClampNeg (-1)) (6 : Int32).toNatClampNeg (-1)) (7 : Int32).toNatClampNeg (-1)) (8 : Int32).toNatClampNeg (-1)) (9 : Int32).toNatClampNeg (-1)))), (n17, .inl (cI, 10, .inl (fun _ => 0))), (n18, .inr (3, [.ref n19, .ref n20, .ref n21, .ref n22, .ref n23, .int 0, .int 0, .int 0, .int 0, .int 0])), (n19, .inl (cI, 100, .inl (fun _ => 0))), (n20, .inl (cI, 11264, .inl (fun _ => 0))), (n21, .inl (cI, 10, .inl (fun _ => 0))), (n22, .inl (cI, 10, .inl (fun _ => 0))), (n23, .inl (cI, 10, .inl (fun _ => 0)))] H := hP
  have hD : va_D A [(sq, .inr (4, [.ref n1, .ref n6, .ref n11, .ref n12, .ref n13, .ref n15, .null, .int 0, .int 0, .int 0, .int 0])), (n1, .inr (0, [.ref n2, .ref n3, .ref n4, .ref n5, .int 0])), (n2, .inl (cI, 10, .inl (fun _ => 0))), (n3, .inl (cI, 10, .inl (fun _ => 0))), (n4, .inl (cI, 10, .inl (fun _ => 0))), (n5, .inl (cI, 10, .inl (fun _ => 0))), (n6, .inr (0, [.ref n7, .ref n8, .ref n9, .ref n10, .int 0])), (n7, .inl (cI, 10, .inl (fun _ => 0))), (n8, .inl (cI, 10, .inl (fun _ => 0))), (n9, .inl (cI, 10, .inl (fun _ => 0))), (n10, .inl (cI, 10, .inl (fun _ => 0))), (n11, .inl (cI, 10, .inl (fun _ => 0))), (n12, .inl (cI, 100, .inl (fun _ => 0))), (n13, .inr (1, [.ref n14, .int 0])), (n14, .inl (cI, 10, .inl (fun _ => 0))), (n15, .inr (2, [.ref n16, .ref n17, .int 0])), (n16, .inl (cI, 10, .inl (upd (upd (upd (upd (upd (upd (upd (upd (upd (upd (fun _ => 0) (0 : Int32).toNatClampNeg (-1)) (1 : Int32).toNatClampNeg (-1)) (2 : Int32).toNatClampNeg (-1)) (3 : Int32).toNatClampNeg (-1)) (4 : Int32).toNatClampNeg (-1)) (5 : Int32).toNatClampNeg (-1)) (6 : Int32).toNatClampNeg (-1)) (7 : Int32).toNatClampNeg (-1)) (8 : Int32).toNatClampNeg (-1)) (9 : Int32).toNatClampNeg (-1)))), (n17, .inl (cI, 10, .inl (fun _ => 0))), (n18, .inr (3, [.ref n19, .ref n20, .ref n21, .ref n22, .ref n23, .int 0, .int 0, .int 0, .int 0, .int 0])), (n19, .inl (cI, 100, .inl (fun _ => 0))), (n20, .inl (cI, 11264, .inl (fun _ => 0))), (n21, .inl (cI, 10, .inl (fun _ => 0))), (n22, .inl (cI, 10, .inl (fun _ => 0))), (n23, .inl (cI, 10, .inl (fun _ => 0)))] := hD
  clear hP1 hD1 hPc hDc hFc hk1 hz1
  refine W.widen (k := 23) (n := 11639) (Nat.le_of_ble_eq_true rfl) (Nat.le_of_ble_eq_true rfl) ?_
  refine va_putF (D := (dC, dI)) (ci := 4) (v := .ref n18) (ty := .object "SurplusMatch$Matching") (C := R_S) (T := F_S) (N := 11) hx hb hts hk9 t_S t_S_ok n_S hown hK hP hD hS 0 rfl rfl 6 (by decide) hk34 (fun _ h9 => h9) rfl hin rfl (by decide +kernel) rfl rfl (Nat.le_of_ble_eq_true rfl) d_S_init_72 (fun H locs hP hD hS => ?_)
  have hP : va_P (dC, dI) classes [(sq, .inr (4, [.ref n1, .ref n6, .ref n11, .ref n12, .ref n13, .ref n15, .ref n18, .int 0, .int 0, .int 0, .int 0])), (n1, .inr (0, [.ref n2, .ref n3, .ref n4, .ref n5, .int 0])), (n2, .inl (cI, 10, .inl (fun _ => 0))), (n3, .inl (cI, 10, .inl (fun _ => 0))), (n4, .inl (cI, 10, .inl (fun _ => 0))), (n5, .inl (cI, 10, .inl (fun _ => 0))), (n6, .inr (0, [.ref n7, .ref n8, .ref n9, .ref n10, .int 0])), (n7, .inl (cI, 10, .inl (fun _ => 0))), (n8, .inl (cI, 10, .inl (fun _ => 0))), (n9, .inl (cI, 10, .inl (fun _ => 0))), (n10, .inl (cI, 10, .inl (fun _ => 0))), (n11, .inl (cI, 10, .inl (fun _ => 0))), (n12, .inl (cI, 100, .inl (fun _ => 0))), (n13, .inr (1, [.ref n14, .int 0])), (n14, .inl (cI, 10, .inl (fun _ => 0))), (n15, .inr (2, [.ref n16, .ref n17, .int 0])), (n16, .inl (cI, 10, .inl (upd (upd (upd (upd (upd (upd (upd (upd (upd (upd (fun _ => 0) (0 : Int32).toNatClampNeg (-1)) (1 : Int32).toNatClampNeg (-1)) (2 : Int32).toNatClampNeg (-1)) (3 : Int32).toNatClampNeg (-1)) (4 : Int32).toNatClampNeg (-1)) (5 : Int32).toNatClampNeg (-1)) (6 : Int32).toNatClampNeg (-1)) (7 : Int32).toNatClampNeg (-1)) (8 : Int32).toNatClampNeg (-1)) (9 : Int32).toNatClampNeg (-1)))), (n17, .inl (cI, 10, .inl (fun _ => 0))), (n18, .inr (3, [.ref n19, .ref n20, .ref n21, .ref n22, .ref n23, .int 0, .int 0, .int 0, .int 0, .int 0])), (n19, .inl (cI, 100, .inl (fun _ => 0))), (n20, .inl (cI, 11264, .inl (fun _ => 0))), (n21, .inl (cI, 10, .inl (fun _ => 0))), (n22, .inl (cI, 10, .inl (fun _ => 0))), (n23, .inl (cI, 10, .inl (fun _ => 0)))] H := hP
  have hD : va_D A [(sq, .inr (4, [.ref n1, .ref n6, .ref n11, .ref n12, .ref n13, .ref n15, .ref n18, .int 0, .int 0, .int 0, .int 0])), (n1, .inr (0, [.ref n2, .ref n3, .ref n4, .ref n5, .int 0])), (n2, .inl (cI, 10, .inl (fun _ => 0))), (n3, .inl (cI, 10, .inl (fun _ => 0))), (n4, .inl (cI, 10, .inl (fun _ => 0))), (n5, .inl (cI, 10, .inl (fun _ => 0))), (n6, .inr (0, [.ref n7, .ref n8, .ref n9, .ref n10, .int 0])), (n7, .inl (cI, 10, .inl (fun _ => 0))), (n8, .inl (cI, 10, .inl (fun _ => 0))), (n9, .inl (cI, 10, .inl (fun _ => 0))), (n10, .inl (cI, 10, .inl (fun _ => 0))), (n11, .inl (cI, 10, .inl (fun _ => 0))), (n12, .inl (cI, 100, .inl (fun _ => 0))), (n13, .inr (1, [.ref n14, .int 0])), (n14, .inl (cI, 10, .inl (fun _ => 0))), (n15, .inr (2, [.ref n16, .ref n17, .int 0])), (n16, .inl (cI, 10, .inl (upd (upd (upd (upd (upd (upd (upd (upd (upd (upd (fun _ => 0) (0 : Int32).toNatClampNeg (-1)) (1 : Int32).toNatClampNeg (-1)) (2 : Int32).toNatClampNeg (-1)) (3 : Int32).toNatClampNeg (-1)) (4 : Int32).toNatClampNeg (-1)) (5 : Int32).toNatClampNeg (-1)) (6 : Int32).toNatClampNeg (-1)) (7 : Int32).toNatClampNeg (-1)) (8 : Int32).toNatClampNeg (-1)) (9 : Int32).toNatClampNeg (-1)))), (n17, .inl (cI, 10, .inl (fun _ => 0))), (n18, .inr (3, [.ref n19, .ref n20, .ref n21, .ref n22, .ref n23, .int 0, .int 0, .int 0, .int 0, .int 0])), (n19, .inl (cI, 100, .inl (fun _ => 0))), (n20, .inl (cI, 11264, .inl (fun _ => 0))), (n21, .inl (cI, 10, .inl (fun _ => 0))), (n22, .inl (cI, 10, .inl (fun _ => 0))), (n23, .inl (cI, 10, .inl (fun _ => 0)))] := hD
  refine lv_aload_n hx hb d_S_init_75 rfl (lv_at hl 0 rfl) ?_
  refine lv_bipush (v := 100) hx hb d_S_init_76 (by decide) ?_
  refine va_put (D := (dC, dI)) (ci := 4) (v := .int 100) (ty := .int) (C := R_S) (T := F_S) (N := 11) hx hb hts hk9 t_S t_S_ok n_S hown hK hP hD hS 0 rfl rfl 10 (by decide) hk35 (fun _ h9 => h9) rfl (by decide +kernel) rfl rfl (Nat.le_of_ble_eq_true rfl) d_S_init_78 (fun H locs hP hD hS => ?_)
  have hP : va_P (dC, dI) classes [(sq, .inr (4, [.ref n1, .ref n6, .ref n11, .ref n12, .ref n13, .ref n15, .ref n18, .int 0, .int 0, .int 0, .int 100])), (n1, .inr (0, [.ref n2, .ref n3, .ref n4, .ref n5, .int 0])), (n2, .inl (cI, 10, .inl (fun _ => 0))), (n3, .inl (cI, 10, .inl (fun _ => 0))), (n4, .inl (cI, 10, .inl (fun _ => 0))), (n5, .inl (cI, 10, .inl (fun _ => 0))), (n6, .inr (0, [.ref n7, .ref n8, .ref n9, .ref n10, .int 0])), (n7, .inl (cI, 10, .inl (fun _ => 0))), (n8, .inl (cI, 10, .inl (fun _ => 0))), (n9, .inl (cI, 10, .inl (fun _ => 0))), (n10, .inl (cI, 10, .inl (fun _ => 0))), (n11, .inl (cI, 10, .inl (fun _ => 0))), (n12, .inl (cI, 100, .inl (fun _ => 0))), (n13, .inr (1, [.ref n14, .int 0])), (n14, .inl (cI, 10, .inl (fun _ => 0))), (n15, .inr (2, [.ref n16, .ref n17, .int 0])), (n16, .inl (cI, 10, .inl (upd (upd (upd (upd (upd (upd (upd (upd (upd (upd (fun _ => 0) (0 : Int32).toNatClampNeg (-1)) (1 : Int32).toNatClampNeg (-1)) (2 : Int32).toNatClampNeg (-1)) (3 : Int32).toNatClampNeg (-1)) (4 : Int32).toNatClampNeg (-1)) (5 : Int32).toNatClampNeg (-1)) (6 : Int32).toNatClampNeg (-1)) (7 : Int32).toNatClampNeg (-1)) (8 : Int32).toNatClampNeg (-1)) (9 : Int32).toNatClampNeg (-1)))), (n17, .inl (cI, 10, .inl (fun _ => 0))), (n18, .inr (3, [.ref n19, .ref n20, .ref n21, .ref n22, .ref n23, .int 0, .int 0, .int 0, .int 0, .int 0])), (n19, .inl (cI, 100, .inl (fun _ => 0))), (n20, .inl (cI, 11264, .inl (fun _ => 0))), (n21, .inl (cI, 10, .inl (fun _ => 0))), (n22, .inl (cI, 10, .inl (fun _ => 0))), (n23, .inl (cI, 10, .inl (fun _ => 0)))] H := hP
  have hD : va_D A [(sq, .inr (4, [.ref n1, .ref n6, .ref n11, .ref n12, .ref n13, .ref n15, .ref n18, .int 0, .int 0, .int 0, .int 100])), (n1, .inr (0, [.ref n2, .ref n3, .ref n4, .ref n5, .int 0])), (n2, .inl (cI, 10, .inl (fun _ => 0))), (n3, .inl (cI, 10, .inl (fun _ => 0))), (n4, .inl (cI, 10, .inl (fun _ => 0))), (n5, .inl (cI, 10, .inl (fun _ => 0))), (n6, .inr (0, [.ref n7, .ref n8, .ref n9, .ref n10, .int 0])), (n7, .inl (cI, 10, .inl (fun _ => 0))), (n8, .inl (cI, 10, .inl (fun _ => 0))), (n9, .inl (cI, 10, .inl (fun _ => 0))), (n10, .inl (cI, 10, .inl (fun _ => 0))), (n11, .inl (cI, 10, .inl (fun _ => 0))), (n12, .inl (cI, 100, .inl (fun _ => 0))), (n13, .inr (1, [.ref n14, .int 0])), (n14, .inl (cI, 10, .inl (fun _ => 0))), (n15, .inr (2, [.ref n16, .ref n17, .int 0])), (n16, .inl (cI, 10, .inl (upd (upd (upd (upd (upd (upd (upd (upd (upd (upd (fun _ => 0) (0 : Int32).toNatClampNeg (-1)) (1 : Int32).toNatClampNeg (-1)) (2 : Int32).toNatClampNeg (-1)) (3 : Int32).toNatClampNeg (-1)) (4 : Int32).toNatClampNeg (-1)) (5 : Int32).toNatClampNeg (-1)) (6 : Int32).toNatClampNeg (-1)) (7 : Int32).toNatClampNeg (-1)) (8 : Int32).toNatClampNeg (-1)) (9 : Int32).toNatClampNeg (-1)))), (n17, .inl (cI, 10, .inl (fun _ => 0))), (n18, .inr (3, [.ref n19, .ref n20, .ref n21, .ref n22, .ref n23, .int 0, .int 0, .int 0, .int 0, .int 0])), (n19, .inl (cI, 100, .inl (fun _ => 0))), (n20, .inl (cI, 11264, .inl (fun _ => 0))), (n21, .inl (cI, 10, .inl (fun _ => 0))), (n22, .inl (cI, 10, .inl (fun _ => 0))), (n23, .inl (cI, 10, .inl (fun _ => 0)))] := hD
  exact W.vret hx hb hr (fun t ht hW => ⟨⟨(n1, n2, n3, n4, n5, n6, n7, n8, n9, n10, n11, n12, n13, n14, n15, n16, n17, n18, n19, n20, n21, n22, n23), rfl, trivial, by rw [ht]; exact hP, va_K.moved hW.alike hK, hD⟩, hS.F ht⟩) hS.2.2 d_S_init_81

def w_D_init : List Cond := .code y_D_init b_D_init 1 none :: W0
theorem q_D_init : y_D_init.cls = R_D ∧ y_D_init.cls ≠ "java/lang/invoke/MethodHandle" ∧ y_D_init.cls ≠ "java/lang/invoke/VarHandle" ∧ (parseMethodDescriptor y_D_init.desc).map (fun d => d.parameters.length) = some 0 := by decide +kernel
set_option maxHeartbeats 4000000 in
set_option maxRecDepth 100000 in
theorem c_D_init (l : Launch) (dC : Nat → ClassId) (dI : Nat → Nat → Nat) (cI cZ cJ : ClassId) (dq : Nat) (sz : Nat) : Met l y_D_init w_D_init ({ frames := 1, cells := 11, slots := 11514, locals := 24 } : Room) (va_Pc [.ref dq] (fun U => U.heap.size = sz ∧ va_P (dC, dI) classes [(dq, .inr (5, [.int 0, .int 0, .int 0, .int 0, .int 0, .int 0, .int 0, .null, .null, .null, .null, .null, .null, .null, .null, .int 0, .int 0, .null, .null, .null]))] U.heap ∧ va_K (dC, dI) classes [(cI, .int), (cZ, .boolean), (cJ, .long)] U ∧ va_D (fun _ => True) [(dq, .inr (5, [.int 0, .int 0, .int 0, .int 0, .int 0, .int 0, .int 0, .null, .null, .null, .null, .null, .null, .null, .null, .int 0, .int 0, .null, .null, .null]))] ∧ nw U)) (va_Qv (fun _ : Nat × Nat × Nat × Nat × Nat × Nat × Nat × Nat × Nat × Nat × Nat => True) (fun u t => va_P (dC, dI) classes [(dq, .inr (5, [.int 0, .int 0, .int 0, .int 0, .int 100, .int 0, .int 0, .ref u.1, .ref u.2.1, .ref u.2.2.1, .ref u.2.2.2.1, .ref u.2.2.2.2.1, .ref u.2.2.2.2.2.1, .ref u.2.2.2.2.2.2.1, .ref u.2.2.2.2.2.2.2.1, .int 0, .int 0, .ref u.2.2.2.2.2.2.2.2.1, .ref u.2.2.2.2.2.2.2.2.2.1, .ref u.2.2.2.2.2.2.2.2.2.2])), (u.1, .inl (cI, 40, .inl (fun _ => 0))), (u.2.1, .inl (cI, 40, .inl (fun _ => 0))), (u.2.2.1, .inl (cI, 10, .inl (fun _ => 0))), (u.2.2.2.1, .inl (cI, 100, .inl (fun _ => 0))), (u.2.2.2.2.1, .inl (cZ, 10, .inl (fun _ => 0))), (u.2.2.2.2.2.1, .inl (cI, 10, .inl (fun _ => 0))), (u.2.2.2.2.2.2.1, .inl (cI, 10, .inl (fun _ => 0))), (u.2.2.2.2.2.2.2.1, .inl (cI, 10, .inl (fun _ => 0))), (u.2.2.2.2.2.2.2.2.1, .inl (cI, 10, .inl (fun _ => 0))), (u.2.2.2.2.2.2.2.2.2.1, .inl (cI, 10, .inl (fun _ => 0))), (u.2.2.2.2.2.2.2.2.2.2, .inl (cJ, 11264, .inr (.inl (fun _ => 0))))] t.heap ∧ va_K (dC, dI) classes [(cI, .int), (cZ, .boolean), (cJ, .long)] t ∧ va_D (va_A [(dq, .inr (5, [.int 0, .int 0, .int 0, .int 0, .int 0, .int 0, .int 0, .null, .null, .null, .null, .null, .null, .null, .null, .int 0, .int 0, .null, .null, .null]))] sz) [(dq, .inr (5, [.int 0, .int 0, .int 0, .int 0, .int 100, .int 0, .int 0, .ref u.1, .ref u.2.1, .ref u.2.2.1, .ref u.2.2.2.1, .ref u.2.2.2.2.1, .ref u.2.2.2.2.2.1, .ref u.2.2.2.2.2.2.1, .ref u.2.2.2.2.2.2.2.1, .int 0, .int 0, .ref u.2.2.2.2.2.2.2.2.1, .ref u.2.2.2.2.2.2.2.2.2.1, .ref u.2.2.2.2.2.2.2.2.2.2])), (u.1, .inl (cI, 40, .inl (fun _ => 0))), (u.2.1, .inl (cI, 40, .inl (fun _ => 0))), (u.2.2.1, .inl (cI, 10, .inl (fun _ => 0))), (u.2.2.2.1, .inl (cI, 100, .inl (fun _ => 0))), (u.2.2.2.2.1, .inl (cZ, 10, .inl (fun _ => 0))), (u.2.2.2.2.2.1, .inl (cI, 10, .inl (fun _ => 0))), (u.2.2.2.2.2.2.1, .inl (cI, 10, .inl (fun _ => 0))), (u.2.2.2.2.2.2.2.1, .inl (cI, 10, .inl (fun _ => 0))), (u.2.2.2.2.2.2.2.2.1, .inl (cI, 10, .inl (fun _ => 0))), (u.2.2.2.2.2.2.2.2.2.1, .inl (cI, 10, .inl (fun _ => 0))), (u.2.2.2.2.2.2.2.2.2.2, .inl (cJ, 11264, .inr (.inl (fun _ => 0))))]) (va_A [(dq, .inr (5, [.int 0, .int 0, .int 0, .int 0, .int 0, .int 0, .int 0, .null, .null, .null, .null, .null, .null, .null, .null, .int 0, .int 0, .null, .null, .null]))] sz)) 11 11514 (va_A [(dq, .inr (5, [.int 0, .int 0, .int 0, .int 0, .int 0, .int 0, .int 0, .null, .null, .null, .null, .null, .null, .null, .null, .int 0, .int 0, .null, .null, .null]))] sz) := by
  refine Met.ofW (cc := b_D_init) (maxL := 1) (ret := none) (by decide) rfl ?_
  intro p e s m args below meth c s₁ B hml hv
  obtain ⟨rfl, hsz, hP, hK, hD0, hN⟩ := hv
  have hx := B.exec
  have hb := B.bytes
  have hr := B.returns
  have hts := atoms_spec (ws := w_D_init) B.pre
  have hown : s.vm.findClass R_D = some m.cls := findClass_of_methodNamed B.named
  have hin : meth.name = "<init>" := (name_of_methodNamed B.named B.method).1
  have hlocks := B.notSynchronized
  subst hsz
  have hD := hD0.self (sz := s.heap.size)
  generalize hAe : va_A [(dq, .inr (5, [.int 0, .int 0, .int 0, .int 0, .int 0, .int 0, .int 0, .null, .null, .null, .null, .null, .null, .null, .null, .int 0, .int 0, .null, .null, .null]))] s.heap.size = A at hD ⊢
  have hA : ∀ q : Nat, s.heap.size ≤ q → A q := fun q h => by rw [← hAe]; exact Or.inr h
  have hS : va_S A s.heap s.heap [] := va_S.rf
  have hk0 := hts (.methodLink R_D 1 objectInit) (List.mem_cons_of_mem _ (w0 592 rfl))
  have hk1 := hts (.instanceMethod objectInit) (List.mem_cons_of_mem _ (w0 50 rfl))
  have hk2 := hts (.fieldLink R_D 7 "SurplusMatchModel" "saleFrom" "I") (List.mem_cons_of_mem _ (w0 597 rfl))
  have hk3 : ∀ w ∈ w_D, w ∈ w_D_init := fun w h => List.mem_cons_of_mem _ (i_D w h)
  have hk4 := hts (.arrayClass .int) (List.mem_cons_of_mem _ (w0 74 rfl))
  have hk5 := hts (.fieldLink R_D 13 "SurplusMatchModel" "piece" "[I") (List.mem_cons_of_mem _ (w0 600 rfl))
  have hk6 := hts (.fieldLink R_D 17 "SurplusMatchModel" "order" "[I") (List.mem_cons_of_mem _ (w0 601 rfl))
  have hk7 := hts (.fieldLink R_D 20 "SurplusMatchModel" "came" "[I") (List.mem_cons_of_mem _ (w0 602 rfl))
  have hk8 := hts (.fieldLink R_D 23 "SurplusMatchModel" "worth" "[I") (List.mem_cons_of_mem _ (w0 603 rfl))
  have hk9 := hts (.arrayClass .boolean) (List.mem_cons_of_mem _ (w0 654 rfl))
  have hk10 := hts (.fieldLink R_D 26 "SurplusMatchModel" "used" "[Z") (List.mem_cons_of_mem _ (w0 604 rfl))
  have hk11 := hts (.fieldLink R_D 30 "SurplusMatchModel" "usedBy" "[I") (List.mem_cons_of_mem _ (w0 605 rfl))
  have hk12 := hts (.fieldLink R_D 33 "SurplusMatchModel" "reservedFor" "[I") (List.mem_cons_of_mem _ (w0 606 rfl))
  have hk13 := hts (.fieldLink R_D 36 "SurplusMatchModel" "reservedTo" "[I") (List.mem_cons_of_mem _ (w0 607 rfl))
  have hk14 := hts (.fieldLink R_D 39 "SurplusMatchModel" "pieceDual" "[I") (List.mem_cons_of_mem _ (w0 610 rfl))
  have hk15 := hts (.fieldLink R_D 42 "SurplusMatchModel" "orderDual" "[I") (List.mem_cons_of_mem _ (w0 611 rfl))
  have hk16 := hts (.arrayClass .long) (List.mem_cons_of_mem _ (w0 655 rfl))
  have hk17 := hts (.fieldLink R_D 45 "SurplusMatchModel" "table" "[J") (List.mem_cons_of_mem _ (w0 612 rfl))
  have hl := lv_entry ([.ref dq]) (n := 1) (Nat.le_of_ble_eq_true rfl)
  rw [lg_entry_eq]
  generalize (lg_sl ([.ref dq]) ++ List.replicate (1 - (lg_sl ([.ref dq])).length) Slot.unset).toArray = ls at hl ⊢
  have hl : lv_has ls 1 [(0, .ref dq)] := hl
  refine lv_aload_n hx hb d_D_init_0 rfl (lv_at hl 0 rfl) ?_
  refine W.objInit hx hb hown hk0 hk1 (hts _ (List.mem_cons_of_mem _ (w0 51 rfl))) rfl (by rw [hml]; exact hl.1) rfl d_D_init_1 (Nat.le_of_ble_eq_true rfl) (Nat.le_of_ble_eq_true rfl) ?_
  refine W.eq (g2 := F0 m 4 ls []) rfl ?_
  refine lv_aload_n hx hb d_D_init_4 rfl (lv_at hl 0 rfl) ?_
  refine lv_bipush (v := 100) hx hb d_D_init_5 (by decide) ?_
  refine va_put (D := (dC, dI)) (ci := 5) (v := .int 100) (ty := .int) (C := R_D) (T := F_D) (N := 20) hx hb hts hk3 t_D t_D_ok n_D hown hK hP hD hS 0 rfl rfl 4 (by decide) hk2 (fun _ h9 => h9) rfl (by decide +kernel) rfl rfl (Nat.le_of_ble_eq_true rfl) d_D_init_7 (fun H locs hP hD hS => ?_)
  have hP : va_P (dC, dI) classes [(dq, .inr (5, [.int 0, .int 0, .int 0, .int 0, .int 100, .int 0, .int 0, .null, .null, .null, .null, .null, .null, .null, .null, .int 0, .int 0, .null, .null, .null]))] H := hP
  have hD : va_D A [(dq, .inr (5, [.int 0, .int 0, .int 0, .int 0, .int 100, .int 0, .int 0, .null, .null, .null, .null, .null, .null, .null, .null, .int 0, .int 0, .null, .null, .null]))] := hD
  refine lv_aload_n hx hb d_D_init_10 rfl (lv_at hl 0 rfl) ?_
  refine lv_bipush (v := 40) hx hb d_D_init_11 (by decide) ?_
  refine va_newa (atype := .int) (ty := .int) hx hb hk4 rfl hK hP hD hS hA (N' := 40) (a0 := (40, .inl (fun _ => 0))) (fun _ => rfl) (by decide) (by decide) (by decide) (Nat.le_of_ble_eq_true rfl) (Nat.le_of_ble_eq_true rfl) d_D_init_13 (fun n1 cA H hK9 hP hD hS => ?_)
  have hcA : cI = cA := cA_eq hK9 0 3 rfl rfl (fun _ => Iff.rfl)
  subst hcA
  clear hK9
  have hP : va_P (dC, dI) classes [(dq, .inr (5, [.int 0, .int 0, .int 0, .int 0, .int 100, .int 0, .int 0, .null, .null, .null, .null, .null, .null, .null, .null, .int 0, .int 0, .null, .null, .null])), (n1, .inl (cI, 40, .inl (fun _ => 0)))] H := hP
  have hD : va_D A [(dq, .inr (5, [.int 0, .int 0, .int 0, .int 0, .int 100, .int 0, .int 0, .null, .null, .null, .null, .null, .null, .null, .null, .int 0, .int 0, .null, .null, .null])), (n1, .inl (cI, 40, .inl (fun _ => 0)))] := hD
  refine W.widen (k := 1) (n := 40) (Nat.le_of_ble_eq_true rfl) (Nat.le_of_ble_eq_true rfl) ?_
  refine va_putF (D := (dC, dI)) (ci := 5) (v := .ref n1) (ty := .array .int) (C := R_D) (T := F_D) (N := 20) hx hb hts hk3 t_D t_D_ok n_D hown hK hP hD hS 0 rfl rfl 7 (by decide) hk5 (fun _ h9 => h9) rfl hin rfl (by decide +kernel) rfl rfl (Nat.le_of_ble_eq_true rfl) d_D_init_15 (fun H locs hP hD hS => ?_)
  have hP : va_P (dC, dI) classes [(dq, .inr (5, [.int 0, .int 0, .int 0, .int 0, .int 100, .int 0, .int 0, .ref n1, .null, .null, .null, .null, .null, .null, .null, .int 0, .int 0, .null, .null, .null])), (n1, .inl (cI, 40, .inl (fun _ => 0)))] H := hP
  have hD : va_D A [(dq, .inr (5, [.int 0, .int 0, .int 0, .int 0, .int 100, .int 0, .int 0, .ref n1, .null, .null, .null, .null, .null, .null, .null, .int 0, .int 0, .null, .null, .null])), (n1, .inl (cI, 40, .inl (fun _ => 0)))] := hD
  refine lv_aload_n hx hb d_D_init_18 rfl (lv_at hl 0 rfl) ?_
  refine lv_bipush (v := 40) hx hb d_D_init_19 (by decide) ?_
  refine va_newa (atype := .int) (ty := .int) hx hb hk4 rfl hK hP hD hS hA (N' := 40) (a0 := (40, .inl (fun _ => 0))) (fun _ => rfl) (by decide) (by decide) (by decide) (Nat.le_of_ble_eq_true rfl) (Nat.le_of_ble_eq_true rfl) d_D_init_21 (fun n2 cA H hK9 hP hD hS => ?_)
  have hcA : cI = cA := cA_eq hK9 0 3 rfl rfl (fun _ => Iff.rfl)
  subst hcA
  clear hK9
  have hP : va_P (dC, dI) classes [(dq, .inr (5, [.int 0, .int 0, .int 0, .int 0, .int 100, .int 0, .int 0, .ref n1, .null, .null, .null, .null, .null, .null, .null, .int 0, .int 0, .null, .null, .null])), (n1, .inl (cI, 40, .inl (fun _ => 0))), (n2, .inl (cI, 40, .inl (fun _ => 0)))] H := hP
  have hD : va_D A [(dq, .inr (5, [.int 0, .int 0, .int 0, .int 0, .int 100, .int 0, .int 0, .ref n1, .null, .null, .null, .null, .null, .null, .null, .int 0, .int 0, .null, .null, .null])), (n1, .inl (cI, 40, .inl (fun _ => 0))), (n2, .inl (cI, 40, .inl (fun _ => 0)))] := hD
  refine W.widen (k := 2) (n := 80) (Nat.le_of_ble_eq_true rfl) (Nat.le_of_ble_eq_true rfl) ?_
  refine va_putF (D := (dC, dI)) (ci := 5) (v := .ref n2) (ty := .array .int) (C := R_D) (T := F_D) (N := 20) hx hb hts hk3 t_D t_D_ok n_D hown hK hP hD hS 0 rfl rfl 8 (by decide) hk6 (fun _ h9 => h9) rfl hin rfl (by decide +kernel) rfl rfl (Nat.le_of_ble_eq_true rfl) d_D_init_23 (fun H locs hP hD hS => ?_)
  have hP : va_P (dC, dI) classes [(dq, .inr (5, [.int 0, .int 0, .int 0, .int 0, .int 100, .int 0, .int 0, .ref n1, .ref n2, .null, .null, .null, .null, .null, .null, .int 0, .int 0, .null, .null, .null])), (n1, .inl (cI, 40, .inl (fun _ => 0))), (n2, .inl (cI, 40, .inl (fun _ => 0)))] H := hP
  have hD : va_D A [(dq, .inr (5, [.int 0, .int 0, .int 0, .int 0, .int 100, .int 0, .int 0, .ref n1, .ref n2, .null, .null, .null, .null, .null, .null, .int 0, .int 0, .null, .null, .null])), (n1, .inl (cI, 40, .inl (fun _ => 0))), (n2, .inl (cI, 40, .inl (fun _ => 0)))] := hD
  refine lv_aload_n hx hb d_D_init_26 rfl (lv_at hl 0 rfl) ?_
  refine lv_bipush (v := 10) hx hb d_D_init_27 (by decide) ?_
  refine va_newa (atype := .int) (ty := .int) hx hb hk4 rfl hK hP hD hS hA (N' := 10) (a0 := (10, .inl (fun _ => 0))) (fun _ => rfl) (by decide) (by decide) (by decide) (Nat.le_of_ble_eq_true rfl) (Nat.le_of_ble_eq_true rfl) d_D_init_29 (fun n3 cA H hK9 hP hD hS => ?_)
  have hcA : cI = cA := cA_eq hK9 0 3 rfl rfl (fun _ => Iff.rfl)
  subst hcA
  clear hK9
  have hP : va_P (dC, dI) classes [(dq, .inr (5, [.int 0, .int 0, .int 0, .int 0, .int 100, .int 0, .int 0, .ref n1, .ref n2, .null, .null, .null, .null, .null, .null, .int 0, .int 0, .null, .null, .null])), (n1, .inl (cI, 40, .inl (fun _ => 0))), (n2, .inl (cI, 40, .inl (fun _ => 0))), (n3, .inl (cI, 10, .inl (fun _ => 0)))] H := hP
  have hD : va_D A [(dq, .inr (5, [.int 0, .int 0, .int 0, .int 0, .int 100, .int 0, .int 0, .ref n1, .ref n2, .null, .null, .null, .null, .null, .null, .int 0, .int 0, .null, .null, .null])), (n1, .inl (cI, 40, .inl (fun _ => 0))), (n2, .inl (cI, 40, .inl (fun _ => 0))), (n3, .inl (cI, 10, .inl (fun _ => 0)))] := hD
  refine W.widen (k := 3) (n := 90) (Nat.le_of_ble_eq_true rfl) (Nat.le_of_ble_eq_true rfl) ?_
  refine va_putF (D := (dC, dI)) (ci := 5) (v := .ref n3) (ty := .array .int) (C := R_D) (T := F_D) (N := 20) hx hb hts hk3 t_D t_D_ok n_D hown hK hP hD hS 0 rfl rfl 9 (by decide) hk7 (fun _ h9 => h9) rfl hin rfl (by decide +kernel) rfl rfl (Nat.le_of_ble_eq_true rfl) d_D_init_31 (fun H locs hP hD hS => ?_)
  have hP : va_P (dC, dI) classes [(dq, .inr (5, [.int 0, .int 0, .int 0, .int 0, .int 100, .int 0, .int 0, .ref n1, .ref n2, .ref n3, .null, .null, .null, .null, .null, .int 0, .int 0, .null, .null, .null])), (n1, .inl (cI, 40, .inl (fun _ => 0))), (n2, .inl (cI, 40, .inl (fun _ => 0))), (n3, .inl (cI, 10, .inl (fun _ => 0)))] H := hP
  have hD : va_D A [(dq, .inr (5, [.int 0, .int 0, .int 0, .int 0, .int 100, .int 0, .int 0, .ref n1, .ref n2, .ref n3, .null, .null, .null, .null, .null, .int 0, .int 0, .null, .null, .null])), (n1, .inl (cI, 40, .inl (fun _ => 0))), (n2, .inl (cI, 40, .inl (fun _ => 0))), (n3, .inl (cI, 10, .inl (fun _ => 0)))] := hD
  refine lv_aload_n hx hb d_D_init_34 rfl (lv_at hl 0 rfl) ?_
  refine lv_bipush (v := 100) hx hb d_D_init_35 (by decide) ?_
  refine va_newa (atype := .int) (ty := .int) hx hb hk4 rfl hK hP hD hS hA (N' := 100) (a0 := (100, .inl (fun _ => 0))) (fun _ => rfl) (by decide) (by decide) (by decide) (Nat.le_of_ble_eq_true rfl) (Nat.le_of_ble_eq_true rfl) d_D_init_37 (fun n4 cA H hK9 hP hD hS => ?_)
  have hcA : cI = cA := cA_eq hK9 0 3 rfl rfl (fun _ => Iff.rfl)
  subst hcA
  clear hK9
  have hP : va_P (dC, dI) classes [(dq, .inr (5, [.int 0, .int 0, .int 0, .int 0, .int 100, .int 0, .int 0, .ref n1, .ref n2, .ref n3, .null, .null, .null, .null, .null, .int 0, .int 0, .null, .null, .null])), (n1, .inl (cI, 40, .inl (fun _ => 0))), (n2, .inl (cI, 40, .inl (fun _ => 0))), (n3, .inl (cI, 10, .inl (fun _ => 0))), (n4, .inl (cI, 100, .inl (fun _ => 0)))] H := hP
  have hD : va_D A [(dq, .inr (5, [.int 0, .int 0, .int 0, .int 0, .int 100, .int 0, .int 0, .ref n1, .ref n2, .ref n3, .null, .null, .null, .null, .null, .int 0, .int 0, .null, .null, .null])), (n1, .inl (cI, 40, .inl (fun _ => 0))), (n2, .inl (cI, 40, .inl (fun _ => 0))), (n3, .inl (cI, 10, .inl (fun _ => 0))), (n4, .inl (cI, 100, .inl (fun _ => 0)))] := hD
  refine W.widen (k := 4) (n := 190) (Nat.le_of_ble_eq_true rfl) (Nat.le_of_ble_eq_true rfl) ?_
  refine va_putF (D := (dC, dI)) (ci := 5) (v := .ref n4) (ty := .array .int) (C := R_D) (T := F_D) (N := 20) hx hb hts hk3 t_D t_D_ok n_D hown hK hP hD hS 0 rfl rfl 10 (by decide) hk8 (fun _ h9 => h9) rfl hin rfl (by decide +kernel) rfl rfl (Nat.le_of_ble_eq_true rfl) d_D_init_39 (fun H locs hP hD hS => ?_)
  have hP : va_P (dC, dI) classes [(dq, .inr (5, [.int 0, .int 0, .int 0, .int 0, .int 100, .int 0, .int 0, .ref n1, .ref n2, .ref n3, .ref n4, .null, .null, .null, .null, .int 0, .int 0, .null, .null, .null])), (n1, .inl (cI, 40, .inl (fun _ => 0))), (n2, .inl (cI, 40, .inl (fun _ => 0))), (n3, .inl (cI, 10, .inl (fun _ => 0))), (n4, .inl (cI, 100, .inl (fun _ => 0)))] H := hP
  have hD : va_D A [(dq, .inr (5, [.int 0, .int 0, .int 0, .int 0, .int 100, .int 0, .int 0, .ref n1, .ref n2, .ref n3, .ref n4, .null, .null, .null, .null, .int 0, .int 0, .null, .null, .null])), (n1, .inl (cI, 40, .inl (fun _ => 0))), (n2, .inl (cI, 40, .inl (fun _ => 0))), (n3, .inl (cI, 10, .inl (fun _ => 0))), (n4, .inl (cI, 100, .inl (fun _ => 0)))] := hD
  refine lv_aload_n hx hb d_D_init_42 rfl (lv_at hl 0 rfl) ?_
  refine lv_bipush (v := 10) hx hb d_D_init_43 (by decide) ?_
  refine va_newa (atype := .boolean) (ty := .boolean) hx hb hk9 rfl hK hP hD hS hA (N' := 10) (a0 := (10, .inl (fun _ => 0))) (fun _ => rfl) (by decide) (by decide) (by decide) (Nat.le_of_ble_eq_true rfl) (Nat.le_of_ble_eq_true rfl) d_D_init_45 (fun n5 cA H hK9 hP hD hS => ?_)
  have hcA : cZ = cA := cA_eq hK9 1 3 rfl rfl (fun _ => Iff.rfl)
  subst hcA
  clear hK9
  have hP : va_P (dC, dI) classes [(dq, .inr (5, [.int 0, .int 0, .int 0, .int 0, .int 100, .int 0, .int 0, .ref n1, .ref n2, .ref n3, .ref n4, .null, .null, .null, .null, .int 0, .int 0, .null, .null, .null])), (n1, .inl (cI, 40, .inl (fun _ => 0))), (n2, .inl (cI, 40, .inl (fun _ => 0))), (n3, .inl (cI, 10, .inl (fun _ => 0))), (n4, .inl (cI, 100, .inl (fun _ => 0))), (n5, .inl (cZ, 10, .inl (fun _ => 0)))] H := hP
  have hD : va_D A [(dq, .inr (5, [.int 0, .int 0, .int 0, .int 0, .int 100, .int 0, .int 0, .ref n1, .ref n2, .ref n3, .ref n4, .null, .null, .null, .null, .int 0, .int 0, .null, .null, .null])), (n1, .inl (cI, 40, .inl (fun _ => 0))), (n2, .inl (cI, 40, .inl (fun _ => 0))), (n3, .inl (cI, 10, .inl (fun _ => 0))), (n4, .inl (cI, 100, .inl (fun _ => 0))), (n5, .inl (cZ, 10, .inl (fun _ => 0)))] := hD
  refine W.widen (k := 5) (n := 200) (Nat.le_of_ble_eq_true rfl) (Nat.le_of_ble_eq_true rfl) ?_
  refine va_putF (D := (dC, dI)) (ci := 5) (v := .ref n5) (ty := .array .boolean) (C := R_D) (T := F_D) (N := 20) hx hb hts hk3 t_D t_D_ok n_D hown hK hP hD hS 0 rfl rfl 11 (by decide) hk10 (fun _ h9 => h9) rfl hin rfl (by decide +kernel) rfl rfl (Nat.le_of_ble_eq_true rfl) d_D_init_47 (fun H locs hP hD hS => ?_)
  have hP : va_P (dC, dI) classes [(dq, .inr (5, [.int 0, .int 0, .int 0, .int 0, .int 100, .int 0, .int 0, .ref n1, .ref n2, .ref n3, .ref n4, .ref n5, .null, .null, .null, .int 0, .int 0, .null, .null, .null])), (n1, .inl (cI, 40, .inl (fun _ => 0))), (n2, .inl (cI, 40, .inl (fun _ => 0))), (n3, .inl (cI, 10, .inl (fun _ => 0))), (n4, .inl (cI, 100, .inl (fun _ => 0))), (n5, .inl (cZ, 10, .inl (fun _ => 0)))] H := hP
  have hD : va_D A [(dq, .inr (5, [.int 0, .int 0, .int 0, .int 0, .int 100, .int 0, .int 0, .ref n1, .ref n2, .ref n3, .ref n4, .ref n5, .null, .null, .null, .int 0, .int 0, .null, .null, .null])), (n1, .inl (cI, 40, .inl (fun _ => 0))), (n2, .inl (cI, 40, .inl (fun _ => 0))), (n3, .inl (cI, 10, .inl (fun _ => 0))), (n4, .inl (cI, 100, .inl (fun _ => 0))), (n5, .inl (cZ, 10, .inl (fun _ => 0)))] := hD
  refine lv_aload_n hx hb d_D_init_50 rfl (lv_at hl 0 rfl) ?_
  refine lv_bipush (v := 10) hx hb d_D_init_51 (by decide) ?_
  refine va_newa (atype := .int) (ty := .int) hx hb hk4 rfl hK hP hD hS hA (N' := 10) (a0 := (10, .inl (fun _ => 0))) (fun _ => rfl) (by decide) (by decide) (by decide) (Nat.le_of_ble_eq_true rfl) (Nat.le_of_ble_eq_true rfl) d_D_init_53 (fun n6 cA H hK9 hP hD hS => ?_)
  have hcA : cI = cA := cA_eq hK9 0 3 rfl rfl (fun _ => Iff.rfl)
  subst hcA
  clear hK9
  have hP : va_P (dC, dI) classes [(dq, .inr (5, [.int 0, .int 0, .int 0, .int 0, .int 100, .int 0, .int 0, .ref n1, .ref n2, .ref n3, .ref n4, .ref n5, .null, .null, .null, .int 0, .int 0, .null, .null, .null])), (n1, .inl (cI, 40, .inl (fun _ => 0))), (n2, .inl (cI, 40, .inl (fun _ => 0))), (n3, .inl (cI, 10, .inl (fun _ => 0))), (n4, .inl (cI, 100, .inl (fun _ => 0))), (n5, .inl (cZ, 10, .inl (fun _ => 0))), (n6, .inl (cI, 10, .inl (fun _ => 0)))] H := hP
  have hD : va_D A [(dq, .inr (5, [.int 0, .int 0, .int 0, .int 0, .int 100, .int 0, .int 0, .ref n1, .ref n2, .ref n3, .ref n4, .ref n5, .null, .null, .null, .int 0, .int 0, .null, .null, .null])), (n1, .inl (cI, 40, .inl (fun _ => 0))), (n2, .inl (cI, 40, .inl (fun _ => 0))), (n3, .inl (cI, 10, .inl (fun _ => 0))), (n4, .inl (cI, 100, .inl (fun _ => 0))), (n5, .inl (cZ, 10, .inl (fun _ => 0))), (n6, .inl (cI, 10, .inl (fun _ => 0)))] := hD
  refine W.widen (k := 6) (n := 210) (Nat.le_of_ble_eq_true rfl) (Nat.le_of_ble_eq_true rfl) ?_
  refine va_putF (D := (dC, dI)) (ci := 5) (v := .ref n6) (ty := .array .int) (C := R_D) (T := F_D) (N := 20) hx hb hts hk3 t_D t_D_ok n_D hown hK hP hD hS 0 rfl rfl 12 (by decide) hk11 (fun _ h9 => h9) rfl hin rfl (by decide +kernel) rfl rfl (Nat.le_of_ble_eq_true rfl) d_D_init_55 (fun H locs hP hD hS => ?_)
  have hP : va_P (dC, dI) classes [(dq, .inr (5, [.int 0, .int 0, .int 0, .int 0, .int 100, .int 0, .int 0, .ref n1, .ref n2, .ref n3, .ref n4, .ref n5, .ref n6, .null, .null, .int 0, .int 0, .null, .null, .null])), (n1, .inl (cI, 40, .inl (fun _ => 0))), (n2, .inl (cI, 40, .inl (fun _ => 0))), (n3, .inl (cI, 10, .inl (fun _ => 0))), (n4, .inl (cI, 100, .inl (fun _ => 0))), (n5, .inl (cZ, 10, .inl (fun _ => 0))), (n6, .inl (cI, 10, .inl (fun _ => 0)))] H := hP
  have hD : va_D A [(dq, .inr (5, [.int 0, .int 0, .int 0, .int 0, .int 100, .int 0, .int 0, .ref n1, .ref n2, .ref n3, .ref n4, .ref n5, .ref n6, .null, .null, .int 0, .int 0, .null, .null, .null])), (n1, .inl (cI, 40, .inl (fun _ => 0))), (n2, .inl (cI, 40, .inl (fun _ => 0))), (n3, .inl (cI, 10, .inl (fun _ => 0))), (n4, .inl (cI, 100, .inl (fun _ => 0))), (n5, .inl (cZ, 10, .inl (fun _ => 0))), (n6, .inl (cI, 10, .inl (fun _ => 0)))] := hD
  refine lv_aload_n hx hb d_D_init_58 rfl (lv_at hl 0 rfl) ?_
  refine lv_bipush (v := 10) hx hb d_D_init_59 (by decide) ?_
  refine va_newa (atype := .int) (ty := .int) hx hb hk4 rfl hK hP hD hS hA (N' := 10) (a0 := (10, .inl (fun _ => 0))) (fun _ => rfl) (by decide) (by decide) (by decide) (Nat.le_of_ble_eq_true rfl) (Nat.le_of_ble_eq_true rfl) d_D_init_61 (fun n7 cA H hK9 hP hD hS => ?_)
  have hcA : cI = cA := cA_eq hK9 0 3 rfl rfl (fun _ => Iff.rfl)
  subst hcA
  clear hK9
  have hP : va_P (dC, dI) classes [(dq, .inr (5, [.int 0, .int 0, .int 0, .int 0, .int 100, .int 0, .int 0, .ref n1, .ref n2, .ref n3, .ref n4, .ref n5, .ref n6, .null, .null, .int 0, .int 0, .null, .null, .null])), (n1, .inl (cI, 40, .inl (fun _ => 0))), (n2, .inl (cI, 40, .inl (fun _ => 0))), (n3, .inl (cI, 10, .inl (fun _ => 0))), (n4, .inl (cI, 100, .inl (fun _ => 0))), (n5, .inl (cZ, 10, .inl (fun _ => 0))), (n6, .inl (cI, 10, .inl (fun _ => 0))), (n7, .inl (cI, 10, .inl (fun _ => 0)))] H := hP
  have hD : va_D A [(dq, .inr (5, [.int 0, .int 0, .int 0, .int 0, .int 100, .int 0, .int 0, .ref n1, .ref n2, .ref n3, .ref n4, .ref n5, .ref n6, .null, .null, .int 0, .int 0, .null, .null, .null])), (n1, .inl (cI, 40, .inl (fun _ => 0))), (n2, .inl (cI, 40, .inl (fun _ => 0))), (n3, .inl (cI, 10, .inl (fun _ => 0))), (n4, .inl (cI, 100, .inl (fun _ => 0))), (n5, .inl (cZ, 10, .inl (fun _ => 0))), (n6, .inl (cI, 10, .inl (fun _ => 0))), (n7, .inl (cI, 10, .inl (fun _ => 0)))] := hD
  refine W.widen (k := 7) (n := 220) (Nat.le_of_ble_eq_true rfl) (Nat.le_of_ble_eq_true rfl) ?_
  refine va_putF (D := (dC, dI)) (ci := 5) (v := .ref n7) (ty := .array .int) (C := R_D) (T := F_D) (N := 20) hx hb hts hk3 t_D t_D_ok n_D hown hK hP hD hS 0 rfl rfl 13 (by decide) hk12 (fun _ h9 => h9) rfl hin rfl (by decide +kernel) rfl rfl (Nat.le_of_ble_eq_true rfl) d_D_init_63 (fun H locs hP hD hS => ?_)
  have hP : va_P (dC, dI) classes [(dq, .inr (5, [.int 0, .int 0, .int 0, .int 0, .int 100, .int 0, .int 0, .ref n1, .ref n2, .ref n3, .ref n4, .ref n5, .ref n6, .ref n7, .null, .int 0, .int 0, .null, .null, .null])), (n1, .inl (cI, 40, .inl (fun _ => 0))), (n2, .inl (cI, 40, .inl (fun _ => 0))), (n3, .inl (cI, 10, .inl (fun _ => 0))), (n4, .inl (cI, 100, .inl (fun _ => 0))), (n5, .inl (cZ, 10, .inl (fun _ => 0))), (n6, .inl (cI, 10, .inl (fun _ => 0))), (n7, .inl (cI, 10, .inl (fun _ => 0)))] H := hP
  have hD : va_D A [(dq, .inr (5, [.int 0, .int 0, .int 0, .int 0, .int 100, .int 0, .int 0, .ref n1, .ref n2, .ref n3, .ref n4, .ref n5, .ref n6, .ref n7, .null, .int 0, .int 0, .null, .null, .null])), (n1, .inl (cI, 40, .inl (fun _ => 0))), (n2, .inl (cI, 40, .inl (fun _ => 0))), (n3, .inl (cI, 10, .inl (fun _ => 0))), (n4, .inl (cI, 100, .inl (fun _ => 0))), (n5, .inl (cZ, 10, .inl (fun _ => 0))), (n6, .inl (cI, 10, .inl (fun _ => 0))), (n7, .inl (cI, 10, .inl (fun _ => 0)))] := hD
  refine lv_aload_n hx hb d_D_init_66 rfl (lv_at hl 0 rfl) ?_
  refine lv_bipush (v := 10) hx hb d_D_init_67 (by decide) ?_
  refine va_newa (atype := .int) (ty := .int) hx hb hk4 rfl hK hP hD hS hA (N' := 10) (a0 := (10, .inl (fun _ => 0))) (fun _ => rfl) (by decide) (by decide) (by decide) (Nat.le_of_ble_eq_true rfl) (Nat.le_of_ble_eq_true rfl) d_D_init_69 (fun n8 cA H hK9 hP hD hS => ?_)
  have hcA : cI = cA := cA_eq hK9 0 3 rfl rfl (fun _ => Iff.rfl)
  subst hcA
  clear hK9
  have hP : va_P (dC, dI) classes [(dq, .inr (5, [.int 0, .int 0, .int 0, .int 0, .int 100, .int 0, .int 0, .ref n1, .ref n2, .ref n3, .ref n4, .ref n5, .ref n6, .ref n7, .null, .int 0, .int 0, .null, .null, .null])), (n1, .inl (cI, 40, .inl (fun _ => 0))), (n2, .inl (cI, 40, .inl (fun _ => 0))), (n3, .inl (cI, 10, .inl (fun _ => 0))), (n4, .inl (cI, 100, .inl (fun _ => 0))), (n5, .inl (cZ, 10, .inl (fun _ => 0))), (n6, .inl (cI, 10, .inl (fun _ => 0))), (n7, .inl (cI, 10, .inl (fun _ => 0))), (n8, .inl (cI, 10, .inl (fun _ => 0)))] H := hP
  have hD : va_D A [(dq, .inr (5, [.int 0, .int 0, .int 0, .int 0, .int 100, .int 0, .int 0, .ref n1, .ref n2, .ref n3, .ref n4, .ref n5, .ref n6, .ref n7, .null, .int 0, .int 0, .null, .null, .null])), (n1, .inl (cI, 40, .inl (fun _ => 0))), (n2, .inl (cI, 40, .inl (fun _ => 0))), (n3, .inl (cI, 10, .inl (fun _ => 0))), (n4, .inl (cI, 100, .inl (fun _ => 0))), (n5, .inl (cZ, 10, .inl (fun _ => 0))), (n6, .inl (cI, 10, .inl (fun _ => 0))), (n7, .inl (cI, 10, .inl (fun _ => 0))), (n8, .inl (cI, 10, .inl (fun _ => 0)))] := hD
  refine W.widen (k := 8) (n := 230) (Nat.le_of_ble_eq_true rfl) (Nat.le_of_ble_eq_true rfl) ?_
  refine va_putF (D := (dC, dI)) (ci := 5) (v := .ref n8) (ty := .array .int) (C := R_D) (T := F_D) (N := 20) hx hb hts hk3 t_D t_D_ok n_D hown hK hP hD hS 0 rfl rfl 14 (by decide) hk13 (fun _ h9 => h9) rfl hin rfl (by decide +kernel) rfl rfl (Nat.le_of_ble_eq_true rfl) d_D_init_71 (fun H locs hP hD hS => ?_)
  have hP : va_P (dC, dI) classes [(dq, .inr (5, [.int 0, .int 0, .int 0, .int 0, .int 100, .int 0, .int 0, .ref n1, .ref n2, .ref n3, .ref n4, .ref n5, .ref n6, .ref n7, .ref n8, .int 0, .int 0, .null, .null, .null])), (n1, .inl (cI, 40, .inl (fun _ => 0))), (n2, .inl (cI, 40, .inl (fun _ => 0))), (n3, .inl (cI, 10, .inl (fun _ => 0))), (n4, .inl (cI, 100, .inl (fun _ => 0))), (n5, .inl (cZ, 10, .inl (fun _ => 0))), (n6, .inl (cI, 10, .inl (fun _ => 0))), (n7, .inl (cI, 10, .inl (fun _ => 0))), (n8, .inl (cI, 10, .inl (fun _ => 0)))] H := hP
  have hD : va_D A [(dq, .inr (5, [.int 0, .int 0, .int 0, .int 0, .int 100, .int 0, .int 0, .ref n1, .ref n2, .ref n3, .ref n4, .ref n5, .ref n6, .ref n7, .ref n8, .int 0, .int 0, .null, .null, .null])), (n1, .inl (cI, 40, .inl (fun _ => 0))), (n2, .inl (cI, 40, .inl (fun _ => 0))), (n3, .inl (cI, 10, .inl (fun _ => 0))), (n4, .inl (cI, 100, .inl (fun _ => 0))), (n5, .inl (cZ, 10, .inl (fun _ => 0))), (n6, .inl (cI, 10, .inl (fun _ => 0))), (n7, .inl (cI, 10, .inl (fun _ => 0))), (n8, .inl (cI, 10, .inl (fun _ => 0)))] := hD
  refine lv_aload_n hx hb d_D_init_74 rfl (lv_at hl 0 rfl) ?_
  refine lv_bipush (v := 10) hx hb d_D_init_75 (by decide) ?_
  refine va_newa (atype := .int) (ty := .int) hx hb hk4 rfl hK hP hD hS hA (N' := 10) (a0 := (10, .inl (fun _ => 0))) (fun _ => rfl) (by decide) (by decide) (by decide) (Nat.le_of_ble_eq_true rfl) (Nat.le_of_ble_eq_true rfl) d_D_init_77 (fun n9 cA H hK9 hP hD hS => ?_)
  have hcA : cI = cA := cA_eq hK9 0 3 rfl rfl (fun _ => Iff.rfl)
  subst hcA
  clear hK9
  have hP : va_P (dC, dI) classes [(dq, .inr (5, [.int 0, .int 0, .int 0, .int 0, .int 100, .int 0, .int 0, .ref n1, .ref n2, .ref n3, .ref n4, .ref n5, .ref n6, .ref n7, .ref n8, .int 0, .int 0, .null, .null, .null])), (n1, .inl (cI, 40, .inl (fun _ => 0))), (n2, .inl (cI, 40, .inl (fun _ => 0))), (n3, .inl (cI, 10, .inl (fun _ => 0))), (n4, .inl (cI, 100, .inl (fun _ => 0))), (n5, .inl (cZ, 10, .inl (fun _ => 0))), (n6, .inl (cI, 10, .inl (fun _ => 0))), (n7, .inl (cI, 10, .inl (fun _ => 0))), (n8, .inl (cI, 10, .inl (fun _ => 0))), (n9, .inl (cI, 10, .inl (fun _ => 0)))] H := hP
  have hD : va_D A [(dq, .inr (5, [.int 0, .int 0, .int 0, .int 0, .int 100, .int 0, .int 0, .ref n1, .ref n2, .ref n3, .ref n4, .ref n5, .ref n6, .ref n7, .ref n8, .int 0, .int 0, .null, .null, .null])), (n1, .inl (cI, 40, .inl (fun _ => 0))), (n2, .inl (cI, 40, .inl (fun _ => 0))), (n3, .inl (cI, 10, .inl (fun _ => 0))), (n4, .inl (cI, 100, .inl (fun _ => 0))), (n5, .inl (cZ, 10, .inl (fun _ => 0))), (n6, .inl (cI, 10, .inl (fun _ => 0))), (n7, .inl (cI, 10, .inl (fun _ => 0))), (n8, .inl (cI, 10, .inl (fun _ => 0))), (n9, .inl (cI, 10, .inl (fun _ => 0)))] := hD
  refine W.widen (k := 9) (n := 240) (Nat.le_of_ble_eq_true rfl) (Nat.le_of_ble_eq_true rfl) ?_
  refine va_putF (D := (dC, dI)) (ci := 5) (v := .ref n9) (ty := .array .int) (C := R_D) (T := F_D) (N := 20) hx hb hts hk3 t_D t_D_ok n_D hown hK hP hD hS 0 rfl rfl 17 (by decide) hk14 (fun _ h9 => h9) rfl hin rfl (by decide +kernel) rfl rfl (Nat.le_of_ble_eq_true rfl) d_D_init_79 (fun H locs hP hD hS => ?_)
  have hP : va_P (dC, dI) classes [(dq, .inr (5, [.int 0, .int 0, .int 0, .int 0, .int 100, .int 0, .int 0, .ref n1, .ref n2, .ref n3, .ref n4, .ref n5, .ref n6, .ref n7, .ref n8, .int 0, .int 0, .ref n9, .null, .null])), (n1, .inl (cI, 40, .inl (fun _ => 0))), (n2, .inl (cI, 40, .inl (fun _ => 0))), (n3, .inl (cI, 10, .inl (fun _ => 0))), (n4, .inl (cI, 100, .inl (fun _ => 0))), (n5, .inl (cZ, 10, .inl (fun _ => 0))), (n6, .inl (cI, 10, .inl (fun _ => 0))), (n7, .inl (cI, 10, .inl (fun _ => 0))), (n8, .inl (cI, 10, .inl (fun _ => 0))), (n9, .inl (cI, 10, .inl (fun _ => 0)))] H := hP
  have hD : va_D A [(dq, .inr (5, [.int 0, .int 0, .int 0, .int 0, .int 100, .int 0, .int 0, .ref n1, .ref n2, .ref n3, .ref n4, .ref n5, .ref n6, .ref n7, .ref n8, .int 0, .int 0, .ref n9, .null, .null])), (n1, .inl (cI, 40, .inl (fun _ => 0))), (n2, .inl (cI, 40, .inl (fun _ => 0))), (n3, .inl (cI, 10, .inl (fun _ => 0))), (n4, .inl (cI, 100, .inl (fun _ => 0))), (n5, .inl (cZ, 10, .inl (fun _ => 0))), (n6, .inl (cI, 10, .inl (fun _ => 0))), (n7, .inl (cI, 10, .inl (fun _ => 0))), (n8, .inl (cI, 10, .inl (fun _ => 0))), (n9, .inl (cI, 10, .inl (fun _ => 0)))] := hD
  refine lv_aload_n hx hb d_D_init_82 rfl (lv_at hl 0 rfl) ?_
  refine lv_bipush (v := 10) hx hb d_D_init_83 (by decide) ?_
  refine va_newa (atype := .int) (ty := .int) hx hb hk4 rfl hK hP hD hS hA (N' := 10) (a0 := (10, .inl (fun _ => 0))) (fun _ => rfl) (by decide) (by decide) (by decide) (Nat.le_of_ble_eq_true rfl) (Nat.le_of_ble_eq_true rfl) d_D_init_85 (fun n10 cA H hK9 hP hD hS => ?_)
  have hcA : cI = cA := cA_eq hK9 0 3 rfl rfl (fun _ => Iff.rfl)
  subst hcA
  clear hK9
  have hP : va_P (dC, dI) classes [(dq, .inr (5, [.int 0, .int 0, .int 0, .int 0, .int 100, .int 0, .int 0, .ref n1, .ref n2, .ref n3, .ref n4, .ref n5, .ref n6, .ref n7, .ref n8, .int 0, .int 0, .ref n9, .null, .null])), (n1, .inl (cI, 40, .inl (fun _ => 0))), (n2, .inl (cI, 40, .inl (fun _ => 0))), (n3, .inl (cI, 10, .inl (fun _ => 0))), (n4, .inl (cI, 100, .inl (fun _ => 0))), (n5, .inl (cZ, 10, .inl (fun _ => 0))), (n6, .inl (cI, 10, .inl (fun _ => 0))), (n7, .inl (cI, 10, .inl (fun _ => 0))), (n8, .inl (cI, 10, .inl (fun _ => 0))), (n9, .inl (cI, 10, .inl (fun _ => 0))), (n10, .inl (cI, 10, .inl (fun _ => 0)))] H := hP
  have hD : va_D A [(dq, .inr (5, [.int 0, .int 0, .int 0, .int 0, .int 100, .int 0, .int 0, .ref n1, .ref n2, .ref n3, .ref n4, .ref n5, .ref n6, .ref n7, .ref n8, .int 0, .int 0, .ref n9, .null, .null])), (n1, .inl (cI, 40, .inl (fun _ => 0))), (n2, .inl (cI, 40, .inl (fun _ => 0))), (n3, .inl (cI, 10, .inl (fun _ => 0))), (n4, .inl (cI, 100, .inl (fun _ => 0))), (n5, .inl (cZ, 10, .inl (fun _ => 0))), (n6, .inl (cI, 10, .inl (fun _ => 0))), (n7, .inl (cI, 10, .inl (fun _ => 0))), (n8, .inl (cI, 10, .inl (fun _ => 0))), (n9, .inl (cI, 10, .inl (fun _ => 0))), (n10, .inl (cI, 10, .inl (fun _ => 0)))] := hD
  refine W.widen (k := 10) (n := 250) (Nat.le_of_ble_eq_true rfl) (Nat.le_of_ble_eq_true rfl) ?_
  refine va_putF (D := (dC, dI)) (ci := 5) (v := .ref n10) (ty := .array .int) (C := R_D) (T := F_D) (N := 20) hx hb hts hk3 t_D t_D_ok n_D hown hK hP hD hS 0 rfl rfl 18 (by decide) hk15 (fun _ h9 => h9) rfl hin rfl (by decide +kernel) rfl rfl (Nat.le_of_ble_eq_true rfl) d_D_init_87 (fun H locs hP hD hS => ?_)
  have hP : va_P (dC, dI) classes [(dq, .inr (5, [.int 0, .int 0, .int 0, .int 0, .int 100, .int 0, .int 0, .ref n1, .ref n2, .ref n3, .ref n4, .ref n5, .ref n6, .ref n7, .ref n8, .int 0, .int 0, .ref n9, .ref n10, .null])), (n1, .inl (cI, 40, .inl (fun _ => 0))), (n2, .inl (cI, 40, .inl (fun _ => 0))), (n3, .inl (cI, 10, .inl (fun _ => 0))), (n4, .inl (cI, 100, .inl (fun _ => 0))), (n5, .inl (cZ, 10, .inl (fun _ => 0))), (n6, .inl (cI, 10, .inl (fun _ => 0))), (n7, .inl (cI, 10, .inl (fun _ => 0))), (n8, .inl (cI, 10, .inl (fun _ => 0))), (n9, .inl (cI, 10, .inl (fun _ => 0))), (n10, .inl (cI, 10, .inl (fun _ => 0)))] H := hP
  have hD : va_D A [(dq, .inr (5, [.int 0, .int 0, .int 0, .int 0, .int 100, .int 0, .int 0, .ref n1, .ref n2, .ref n3, .ref n4, .ref n5, .ref n6, .ref n7, .ref n8, .int 0, .int 0, .ref n9, .ref n10, .null])), (n1, .inl (cI, 40, .inl (fun _ => 0))), (n2, .inl (cI, 40, .inl (fun _ => 0))), (n3, .inl (cI, 10, .inl (fun _ => 0))), (n4, .inl (cI, 100, .inl (fun _ => 0))), (n5, .inl (cZ, 10, .inl (fun _ => 0))), (n6, .inl (cI, 10, .inl (fun _ => 0))), (n7, .inl (cI, 10, .inl (fun _ => 0))), (n8, .inl (cI, 10, .inl (fun _ => 0))), (n9, .inl (cI, 10, .inl (fun _ => 0))), (n10, .inl (cI, 10, .inl (fun _ => 0)))] := hD
  refine lv_aload_n hx hb d_D_init_90 rfl (lv_at hl 0 rfl) ?_
  refine lv_sipush (v := 11264) hx hb d_D_init_91 (by decide) ?_
  refine va_newa (atype := .long) (ty := .long) hx hb hk16 rfl hK hP hD hS hA (N' := 11264) (a0 := (11264, .inr (.inl (fun _ => 0)))) (fun _ => rfl) (by decide) (by decide) (by decide) (Nat.le_of_ble_eq_true rfl) (Nat.le_of_ble_eq_true rfl) d_D_init_94 (fun n11 cA H hK9 hP hD hS => ?_)
  have hcA : cJ = cA := cA_eq hK9 2 3 rfl rfl (fun _ => Iff.rfl)
  subst hcA
  clear hK9
  have hP : va_P (dC, dI) classes [(dq, .inr (5, [.int 0, .int 0, .int 0, .int 0, .int 100, .int 0, .int 0, .ref n1, .ref n2, .ref n3, .ref n4, .ref n5, .ref n6, .ref n7, .ref n8, .int 0, .int 0, .ref n9, .ref n10, .null])), (n1, .inl (cI, 40, .inl (fun _ => 0))), (n2, .inl (cI, 40, .inl (fun _ => 0))), (n3, .inl (cI, 10, .inl (fun _ => 0))), (n4, .inl (cI, 100, .inl (fun _ => 0))), (n5, .inl (cZ, 10, .inl (fun _ => 0))), (n6, .inl (cI, 10, .inl (fun _ => 0))), (n7, .inl (cI, 10, .inl (fun _ => 0))), (n8, .inl (cI, 10, .inl (fun _ => 0))), (n9, .inl (cI, 10, .inl (fun _ => 0))), (n10, .inl (cI, 10, .inl (fun _ => 0))), (n11, .inl (cJ, 11264, .inr (.inl (fun _ => 0))))] H := hP
  have hD : va_D A [(dq, .inr (5, [.int 0, .int 0, .int 0, .int 0, .int 100, .int 0, .int 0, .ref n1, .ref n2, .ref n3, .ref n4, .ref n5, .ref n6, .ref n7, .ref n8, .int 0, .int 0, .ref n9, .ref n10, .null])), (n1, .inl (cI, 40, .inl (fun _ => 0))), (n2, .inl (cI, 40, .inl (fun _ => 0))), (n3, .inl (cI, 10, .inl (fun _ => 0))), (n4, .inl (cI, 100, .inl (fun _ => 0))), (n5, .inl (cZ, 10, .inl (fun _ => 0))), (n6, .inl (cI, 10, .inl (fun _ => 0))), (n7, .inl (cI, 10, .inl (fun _ => 0))), (n8, .inl (cI, 10, .inl (fun _ => 0))), (n9, .inl (cI, 10, .inl (fun _ => 0))), (n10, .inl (cI, 10, .inl (fun _ => 0))), (n11, .inl (cJ, 11264, .inr (.inl (fun _ => 0))))] := hD
  refine W.widen (k := 11) (n := 11514) (Nat.le_of_ble_eq_true rfl) (Nat.le_of_ble_eq_true rfl) ?_
  refine va_putF (D := (dC, dI)) (ci := 5) (v := .ref n11) (ty := .array .long) (C := R_D) (T := F_D) (N := 20) hx hb hts hk3 t_D t_D_ok n_D hown hK hP hD hS 0 rfl rfl 19 (by decide) hk17 (fun _ h9 => h9) rfl hin rfl (by decide +kernel) rfl rfl (Nat.le_of_ble_eq_true rfl) d_D_init_96 (fun H locs hP hD hS => ?_)
  have hP : va_P (dC, dI) classes [(dq, .inr (5, [.int 0, .int 0, .int 0, .int 0, .int 100, .int 0, .int 0, .ref n1, .ref n2, .ref n3, .ref n4, .ref n5, .ref n6, .ref n7, .ref n8, .int 0, .int 0, .ref n9, .ref n10, .ref n11])), (n1, .inl (cI, 40, .inl (fun _ => 0))), (n2, .inl (cI, 40, .inl (fun _ => 0))), (n3, .inl (cI, 10, .inl (fun _ => 0))), (n4, .inl (cI, 100, .inl (fun _ => 0))), (n5, .inl (cZ, 10, .inl (fun _ => 0))), (n6, .inl (cI, 10, .inl (fun _ => 0))), (n7, .inl (cI, 10, .inl (fun _ => 0))), (n8, .inl (cI, 10, .inl (fun _ => 0))), (n9, .inl (cI, 10, .inl (fun _ => 0))), (n10, .inl (cI, 10, .inl (fun _ => 0))), (n11, .inl (cJ, 11264, .inr (.inl (fun _ => 0))))] H := hP
  have hD : va_D A [(dq, .inr (5, [.int 0, .int 0, .int 0, .int 0, .int 100, .int 0, .int 0, .ref n1, .ref n2, .ref n3, .ref n4, .ref n5, .ref n6, .ref n7, .ref n8, .int 0, .int 0, .ref n9, .ref n10, .ref n11])), (n1, .inl (cI, 40, .inl (fun _ => 0))), (n2, .inl (cI, 40, .inl (fun _ => 0))), (n3, .inl (cI, 10, .inl (fun _ => 0))), (n4, .inl (cI, 100, .inl (fun _ => 0))), (n5, .inl (cZ, 10, .inl (fun _ => 0))), (n6, .inl (cI, 10, .inl (fun _ => 0))), (n7, .inl (cI, 10, .inl (fun _ => 0))), (n8, .inl (cI, 10, .inl (fun _ => 0))), (n9, .inl (cI, 10, .inl (fun _ => 0))), (n10, .inl (cI, 10, .inl (fun _ => 0))), (n11, .inl (cJ, 11264, .inr (.inl (fun _ => 0))))] := hD
  exact W.vret hx hb hr (fun t ht hW => ⟨⟨(n1, n2, n3, n4, n5, n6, n7, n8, n9, n10, n11), rfl, trivial, by rw [ht]; exact hP, va_K.moved hW.alike hK, hD⟩, hS.F ht⟩) hS.2.2 d_D_init_99

