theorem d_J_bitCount_0 : decode b_J_bitCount 0 = .ok (.iload_n 0, 1) := by decide +kernel
theorem d_J_bitCount_1 : decode b_J_bitCount 1 = .ok (.iload_n 0, 1) := by decide +kernel
theorem d_J_bitCount_2 : decode b_J_bitCount 2 = .ok (.iconst 1, 1) := by decide +kernel
theorem d_J_bitCount_3 : decode b_J_bitCount 3 = .ok (.iushr, 1) := by decide +kernel
theorem d_J_bitCount_4 : decode b_J_bitCount 4 = .ok (.ldc_w 265, 3) := by decide +kernel
theorem d_J_bitCount_7 : decode b_J_bitCount 7 = .ok (.iand, 1) := by decide +kernel
theorem d_J_bitCount_8 : decode b_J_bitCount 8 = .ok (.isub, 1) := by decide +kernel
theorem d_J_bitCount_9 : decode b_J_bitCount 9 = .ok (.istore_n 0, 1) := by decide +kernel
theorem d_J_bitCount_10 : decode b_J_bitCount 10 = .ok (.iload_n 0, 1) := by decide +kernel
theorem d_J_bitCount_11 : decode b_J_bitCount 11 = .ok (.ldc_w 266, 3) := by decide +kernel
theorem d_J_bitCount_14 : decode b_J_bitCount 14 = .ok (.iand, 1) := by decide +kernel
theorem d_J_bitCount_15 : decode b_J_bitCount 15 = .ok (.iload_n 0, 1) := by decide +kernel
theorem d_J_bitCount_16 : decode b_J_bitCount 16 = .ok (.iconst 2, 1) := by decide +kernel
theorem d_J_bitCount_17 : decode b_J_bitCount 17 = .ok (.iushr, 1) := by decide +kernel
theorem d_J_bitCount_18 : decode b_J_bitCount 18 = .ok (.ldc_w 266, 3) := by decide +kernel
theorem d_J_bitCount_21 : decode b_J_bitCount 21 = .ok (.iand, 1) := by decide +kernel
theorem d_J_bitCount_22 : decode b_J_bitCount 22 = .ok (.iadd, 1) := by decide +kernel
theorem d_J_bitCount_23 : decode b_J_bitCount 23 = .ok (.istore_n 0, 1) := by decide +kernel
theorem d_J_bitCount_24 : decode b_J_bitCount 24 = .ok (.iload_n 0, 1) := by decide +kernel
theorem d_J_bitCount_25 : decode b_J_bitCount 25 = .ok (.iload_n 0, 1) := by decide +kernel
theorem d_J_bitCount_26 : decode b_J_bitCount 26 = .ok (.iconst 4, 1) := by decide +kernel
theorem d_J_bitCount_27 : decode b_J_bitCount 27 = .ok (.iushr, 1) := by decide +kernel
theorem d_J_bitCount_28 : decode b_J_bitCount 28 = .ok (.iadd, 1) := by decide +kernel
theorem d_J_bitCount_29 : decode b_J_bitCount 29 = .ok (.ldc_w 267, 3) := by decide +kernel
theorem d_J_bitCount_32 : decode b_J_bitCount 32 = .ok (.iand, 1) := by decide +kernel
theorem d_J_bitCount_33 : decode b_J_bitCount 33 = .ok (.istore_n 0, 1) := by decide +kernel
theorem d_J_bitCount_34 : decode b_J_bitCount 34 = .ok (.iload_n 0, 1) := by decide +kernel
theorem d_J_bitCount_35 : decode b_J_bitCount 35 = .ok (.iload_n 0, 1) := by decide +kernel
theorem d_J_bitCount_36 : decode b_J_bitCount 36 = .ok (.bipush 8, 2) := by decide +kernel
theorem d_J_bitCount_38 : decode b_J_bitCount 38 = .ok (.iushr, 1) := by decide +kernel
theorem d_J_bitCount_39 : decode b_J_bitCount 39 = .ok (.iadd, 1) := by decide +kernel
theorem d_J_bitCount_40 : decode b_J_bitCount 40 = .ok (.istore_n 0, 1) := by decide +kernel
theorem d_J_bitCount_41 : decode b_J_bitCount 41 = .ok (.iload_n 0, 1) := by decide +kernel
theorem d_J_bitCount_42 : decode b_J_bitCount 42 = .ok (.iload_n 0, 1) := by decide +kernel
theorem d_J_bitCount_43 : decode b_J_bitCount 43 = .ok (.bipush 16, 2) := by decide +kernel
theorem d_J_bitCount_45 : decode b_J_bitCount 45 = .ok (.iushr, 1) := by decide +kernel
theorem d_J_bitCount_46 : decode b_J_bitCount 46 = .ok (.iadd, 1) := by decide +kernel
theorem d_J_bitCount_47 : decode b_J_bitCount 47 = .ok (.istore_n 0, 1) := by decide +kernel
theorem d_J_bitCount_48 : decode b_J_bitCount 48 = .ok (.iload_n 0, 1) := by decide +kernel
theorem d_J_bitCount_49 : decode b_J_bitCount 49 = .ok (.bipush 63, 2) := by decide +kernel
theorem d_J_bitCount_51 : decode b_J_bitCount 51 = .ok (.iand, 1) := by decide +kernel
theorem d_J_bitCount_52 : decode b_J_bitCount 52 = .ok (.ireturn, 1) := by decide +kernel
theorem d_S_bestSet_0 : decode b_S_bestSet 0 = .ok (.aload_n 0, 1) := by decide +kernel
theorem d_S_bestSet_1 : decode b_S_bestSet 1 = .ok (.iload_n 1, 1) := by decide +kernel
theorem d_S_bestSet_2 : decode b_S_bestSet 2 = .ok (.invokevirtual 267, 3) := by decide +kernel
theorem d_S_bestSet_5 : decode b_S_bestSet 5 = .ok (.istore_n 2, 1) := by decide +kernel
theorem d_S_bestSet_6 : decode b_S_bestSet 6 = .ok (.iconst 0, 1) := by decide +kernel
theorem d_S_bestSet_7 : decode b_S_bestSet 7 = .ok (.istore_n 3, 1) := by decide +kernel
theorem d_S_bestSet_8 : decode b_S_bestSet 8 = .ok (.iconst 0, 1) := by decide +kernel
theorem d_S_bestSet_9 : decode b_S_bestSet 9 = .ok (.istore 4, 2) := by decide +kernel
theorem d_S_bestSet_11 : decode b_S_bestSet 11 = .ok (.iconst 0, 1) := by decide +kernel
theorem d_S_bestSet_12 : decode b_S_bestSet 12 = .ok (.istore 5, 2) := by decide +kernel
theorem d_S_bestSet_14 : decode b_S_bestSet 14 = .ok (.iconst 1, 1) := by decide +kernel
theorem d_S_bestSet_15 : decode b_S_bestSet 15 = .ok (.istore 6, 2) := by decide +kernel
theorem d_S_bestSet_17 : decode b_S_bestSet 17 = .ok (.iload 6, 2) := by decide +kernel
theorem d_S_bestSet_19 : decode b_S_bestSet 19 = .ok (.iload_n 2, 1) := by decide +kernel
theorem d_S_bestSet_20 : decode b_S_bestSet 20 = .ok (.if_icmp .gt 104, 3) := by decide +kernel
theorem d_S_bestSet_23 : decode b_S_bestSet 23 = .ok (.iload 6, 2) := by decide +kernel
theorem d_S_bestSet_25 : decode b_S_bestSet 25 = .ok (.invokestatic 171, 3) := by decide +kernel
theorem d_S_bestSet_28 : decode b_S_bestSet 28 = .ok (.istore 7, 2) := by decide +kernel
theorem d_S_bestSet_30 : decode b_S_bestSet 30 = .ok (.iload 6, 2) := by decide +kernel
theorem d_S_bestSet_32 : decode b_S_bestSet 32 = .ok (.iload_n 2, 1) := by decide +kernel
theorem d_S_bestSet_33 : decode b_S_bestSet 33 = .ok (.iconst (-1), 1) := by decide +kernel
theorem d_S_bestSet_34 : decode b_S_bestSet 34 = .ok (.ixor, 1) := by decide +kernel
theorem d_S_bestSet_35 : decode b_S_bestSet 35 = .ok (.iand, 1) := by decide +kernel
theorem d_S_bestSet_36 : decode b_S_bestSet 36 = .ok (.ifCond .ne 20, 3) := by decide +kernel
theorem d_S_bestSet_39 : decode b_S_bestSet 39 = .ok (.iload 7, 2) := by decide +kernel
theorem d_S_bestSet_41 : decode b_S_bestSet 41 = .ok (.iload 4, 2) := by decide +kernel
theorem d_S_bestSet_43 : decode b_S_bestSet 43 = .ok (.if_icmp .lt 13, 3) := by decide +kernel
theorem d_S_bestSet_46 : decode b_S_bestSet 46 = .ok (.iload 7, 2) := by decide +kernel
theorem d_S_bestSet_48 : decode b_S_bestSet 48 = .ok (.iconst 5, 1) := by decide +kernel
theorem d_S_bestSet_49 : decode b_S_bestSet 49 = .ok (.if_icmp .gt 7, 3) := by decide +kernel
theorem d_S_bestSet_52 : decode b_S_bestSet 52 = .ok (.iconst 1, 1) := by decide +kernel
theorem d_S_bestSet_53 : decode b_S_bestSet 53 = .ok (.goto 4, 3) := by decide +kernel
theorem d_S_bestSet_56 : decode b_S_bestSet 56 = .ok (.iconst 0, 1) := by decide +kernel
theorem d_S_bestSet_57 : decode b_S_bestSet 57 = .ok (.istore 8, 2) := by decide +kernel
theorem d_S_bestSet_59 : decode b_S_bestSet 59 = .ok (.iload 8, 2) := by decide +kernel
theorem d_S_bestSet_61 : decode b_S_bestSet 61 = .ok (.ifCond .eq 57, 3) := by decide +kernel
theorem d_S_bestSet_64 : decode b_S_bestSet 64 = .ok (.aload_n 0, 1) := by decide +kernel
theorem d_S_bestSet_65 : decode b_S_bestSet 65 = .ok (.getfield 16, 3) := by decide +kernel
theorem d_S_bestSet_68 : decode b_S_bestSet 68 = .ok (.iload 6, 2) := by decide +kernel
theorem d_S_bestSet_70 : decode b_S_bestSet 70 = .ok (.invokevirtual 270, 3) := by decide +kernel
theorem d_S_bestSet_73 : decode b_S_bestSet 73 = .ok (.aload_n 0, 1) := by decide +kernel
theorem d_S_bestSet_74 : decode b_S_bestSet 74 = .ok (.getfield 10, 3) := by decide +kernel
theorem d_S_bestSet_77 : decode b_S_bestSet 77 = .ok (.iload_n 1, 1) := by decide +kernel
theorem d_S_bestSet_78 : decode b_S_bestSet 78 = .ok (.invokevirtual 273, 3) := by decide +kernel
theorem d_S_bestSet_81 : decode b_S_bestSet 81 = .ok (.if_icmp .gt 37, 3) := by decide +kernel
theorem d_S_bestSet_84 : decode b_S_bestSet 84 = .ok (.aload_n 0, 1) := by decide +kernel
theorem d_S_bestSet_85 : decode b_S_bestSet 85 = .ok (.iload_n 1, 1) := by decide +kernel
theorem d_S_bestSet_86 : decode b_S_bestSet 86 = .ok (.iload 6, 2) := by decide +kernel
theorem d_S_bestSet_88 : decode b_S_bestSet 88 = .ok (.invokevirtual 276, 3) := by decide +kernel
theorem d_S_bestSet_91 : decode b_S_bestSet 91 = .ok (.istore 9, 2) := by decide +kernel
theorem d_S_bestSet_93 : decode b_S_bestSet 93 = .ok (.iload 7, 2) := by decide +kernel
theorem d_S_bestSet_95 : decode b_S_bestSet 95 = .ok (.iload 4, 2) := by decide +kernel
theorem d_S_bestSet_97 : decode b_S_bestSet 97 = .ok (.if_icmp .gt 10, 3) := by decide +kernel
theorem d_S_bestSet_100 : decode b_S_bestSet 100 = .ok (.iload 9, 2) := by decide +kernel
theorem d_S_bestSet_102 : decode b_S_bestSet 102 = .ok (.iload 5, 2) := by decide +kernel
theorem d_S_bestSet_104 : decode b_S_bestSet 104 = .ok (.if_icmp .le 14, 3) := by decide +kernel
theorem d_S_bestSet_107 : decode b_S_bestSet 107 = .ok (.iload 6, 2) := by decide +kernel
theorem d_S_bestSet_109 : decode b_S_bestSet 109 = .ok (.istore_n 3, 1) := by decide +kernel
theorem d_S_bestSet_110 : decode b_S_bestSet 110 = .ok (.iload 7, 2) := by decide +kernel
theorem d_S_bestSet_112 : decode b_S_bestSet 112 = .ok (.istore 4, 2) := by decide +kernel
theorem d_S_bestSet_114 : decode b_S_bestSet 114 = .ok (.iload 9, 2) := by decide +kernel
theorem d_S_bestSet_116 : decode b_S_bestSet 116 = .ok (.istore 5, 2) := by decide +kernel
theorem d_S_bestSet_118 : decode b_S_bestSet 118 = .ok (.iinc 6 1, 3) := by decide +kernel
theorem d_S_bestSet_121 : decode b_S_bestSet 121 = .ok (.goto (-104), 3) := by decide +kernel
theorem d_S_bestSet_124 : decode b_S_bestSet 124 = .ok (.iload_n 3, 1) := by decide +kernel
theorem d_S_bestSet_125 : decode b_S_bestSet 125 = .ok (.ireturn, 1) := by decide +kernel
def w_J_bitCount : List Cond := .code y_J_bitCount b_J_bitCount 1 (some .int) :: W0
theorem q_J_bitCount : y_J_bitCount.cls = R_J ∧ y_J_bitCount.cls ≠ "java/lang/invoke/MethodHandle" ∧ y_J_bitCount.cls ≠ "java/lang/invoke/VarHandle" ∧ (parseMethodDescriptor y_J_bitCount.desc).map (fun d => d.parameters.length) = some 1 := by decide +kernel
def m_J_bitCount (x0 : Int32) : Option Int32 :=
  some ((((((((x0 - (((x0 : Int32).toUInt32 >>> ((1 : Int32).toUInt32 &&& Int32.toUInt32 31)).toInt32 &&& 1431655765)) &&& 858993459) + ((((x0 - (((x0 : Int32).toUInt32 >>> ((1 : Int32).toUInt32 &&& Int32.toUInt32 31)).toInt32 &&& 1431655765)) : Int32).toUInt32 >>> ((2 : Int32).toUInt32 &&& Int32.toUInt32 31)).toInt32 &&& 858993459)) + (((((x0 - (((x0 : Int32).toUInt32 >>> ((1 : Int32).toUInt32 &&& Int32.toUInt32 31)).toInt32 &&& 1431655765)) &&& 858993459) + ((((x0 - (((x0 : Int32).toUInt32 >>> ((1 : Int32).toUInt32 &&& Int32.toUInt32 31)).toInt32 &&& 1431655765)) : Int32).toUInt32 >>> ((2 : Int32).toUInt32 &&& Int32.toUInt32 31)).toInt32 &&& 858993459)) : Int32).toUInt32 >>> ((4 : Int32).toUInt32 &&& Int32.toUInt32 31)).toInt32) &&& 252645135) + (((((((x0 - (((x0 : Int32).toUInt32 >>> ((1 : Int32).toUInt32 &&& Int32.toUInt32 31)).toInt32 &&& 1431655765)) &&& 858993459) + ((((x0 - (((x0 : Int32).toUInt32 >>> ((1 : Int32).toUInt32 &&& Int32.toUInt32 31)).toInt32 &&& 1431655765)) : Int32).toUInt32 >>> ((2 : Int32).toUInt32 &&& Int32.toUInt32 31)).toInt32 &&& 858993459)) + (((((x0 - (((x0 : Int32).toUInt32 >>> ((1 : Int32).toUInt32 &&& Int32.toUInt32 31)).toInt32 &&& 1431655765)) &&& 858993459) + ((((x0 - (((x0 : Int32).toUInt32 >>> ((1 : Int32).toUInt32 &&& Int32.toUInt32 31)).toInt32 &&& 1431655765)) : Int32).toUInt32 >>> ((2 : Int32).toUInt32 &&& Int32.toUInt32 31)).toInt32 &&& 858993459)) : Int32).toUInt32 >>> ((4 : Int32).toUInt32 &&& Int32.toUInt32 31)).toInt32) &&& 252645135) : Int32).toUInt32 >>> ((8 : Int32).toUInt32 &&& Int32.toUInt32 31)).toInt32) + ((((((((x0 - (((x0 : Int32).toUInt32 >>> ((1 : Int32).toUInt32 &&& Int32.toUInt32 31)).toInt32 &&& 1431655765)) &&& 858993459) + ((((x0 - (((x0 : Int32).toUInt32 >>> ((1 : Int32).toUInt32 &&& Int32.toUInt32 31)).toInt32 &&& 1431655765)) : Int32).toUInt32 >>> ((2 : Int32).toUInt32 &&& Int32.toUInt32 31)).toInt32 &&& 858993459)) + (((((x0 - (((x0 : Int32).toUInt32 >>> ((1 : Int32).toUInt32 &&& Int32.toUInt32 31)).toInt32 &&& 1431655765)) &&& 858993459) + ((((x0 - (((x0 : Int32).toUInt32 >>> ((1 : Int32).toUInt32 &&& Int32.toUInt32 31)).toInt32 &&& 1431655765)) : Int32).toUInt32 >>> ((2 : Int32).toUInt32 &&& Int32.toUInt32 31)).toInt32 &&& 858993459)) : Int32).toUInt32 >>> ((4 : Int32).toUInt32 &&& Int32.toUInt32 31)).toInt32) &&& 252645135) + (((((((x0 - (((x0 : Int32).toUInt32 >>> ((1 : Int32).toUInt32 &&& Int32.toUInt32 31)).toInt32 &&& 1431655765)) &&& 858993459) + ((((x0 - (((x0 : Int32).toUInt32 >>> ((1 : Int32).toUInt32 &&& Int32.toUInt32 31)).toInt32 &&& 1431655765)) : Int32).toUInt32 >>> ((2 : Int32).toUInt32 &&& Int32.toUInt32 31)).toInt32 &&& 858993459)) + (((((x0 - (((x0 : Int32).toUInt32 >>> ((1 : Int32).toUInt32 &&& Int32.toUInt32 31)).toInt32 &&& 1431655765)) &&& 858993459) + ((((x0 - (((x0 : Int32).toUInt32 >>> ((1 : Int32).toUInt32 &&& Int32.toUInt32 31)).toInt32 &&& 1431655765)) : Int32).toUInt32 >>> ((2 : Int32).toUInt32 &&& Int32.toUInt32 31)).toInt32 &&& 858993459)) : Int32).toUInt32 >>> ((4 : Int32).toUInt32 &&& Int32.toUInt32 31)).toInt32) &&& 252645135) : Int32).toUInt32 >>> ((8 : Int32).toUInt32 &&& Int32.toUInt32 31)).toInt32) : Int32).toUInt32 >>> ((16 : Int32).toUInt32 &&& Int32.toUInt32 31)).toInt32) &&& 63)
set_option maxHeartbeats 4000000 in
set_option maxRecDepth 100000 in
theorem c_J_bitCount (l : Launch) (dC : Nat → ClassId) (dI : Nat → Nat → Nat) (cI : ClassId)  (x0 : Int32) (N : Nat) (res : Int32) (hm : m_J_bitCount x0 = some res) : Met l y_J_bitCount w_J_bitCount ({ frames := 0, cells := 0, slots := 0, locals := 0 } : Room) (va_Pc [.int x0] (fun _ => True)) (vp_Si (fun x => res = x)) 0 0 (fun _ => False) := by
  unfold m_J_bitCount at hm
  refine Met.ofW (cc := b_J_bitCount) (maxL := 1) (ret := (some .int)) (by decide) rfl ?_
  intro p e s m args below meth c s₁ B hml hv
  obtain ⟨rfl, -⟩ := hv
  have hx := B.exec
  have hb := B.bytes
  have hr := B.returns
  have hts := atoms_spec (ws := w_J_bitCount) B.pre
  have hown : s.vm.findClass R_J = some m.cls := findClass_of_methodNamed B.named
  have hlocks := B.notSynchronized
  have hk0 := hts (.constant R_J 265 1431655765) (List.mem_cons_of_mem _ (w0 503 rfl))
  have hk1 := hts (.constant R_J 266 858993459) (List.mem_cons_of_mem _ (w0 504 rfl))
  have hk2 := hts (.constant R_J 267 252645135) (List.mem_cons_of_mem _ (w0 505 rfl))
  have hl := lv_entry ([.int x0]) (n := 1) (Nat.le_of_ble_eq_true rfl)
  rw [lg_entry_eq]
  generalize (lg_sl ([.int x0]) ++ List.replicate (1 - (lg_sl ([.int x0])).length) Slot.unset).toArray = ls at hl ⊢
  have hl : lv_has ls 1 [(0, .int x0)] := hl
  refine lv_iload_n hx hb d_J_bitCount_0 rfl (lv_at hl 0 rfl) ?_
  refine lv_iload_n hx hb d_J_bitCount_1 rfl (lv_at hl 0 rfl) ?_
  refine lv_iconst (v := 1) hx hb d_J_bitCount_2 (by decide) ?_
  refine lv_iushr (v := ((x0 : Int32).toUInt32 >>> ((1 : Int32).toUInt32 &&& Int32.toUInt32 31)).toInt32) hx hb d_J_bitCount_3 rfl ?_
  refine lv_ldcw (v := 1431655765) hx hb hown hk0 d_J_bitCount_4 ?_
  refine lv_iand hx hb d_J_bitCount_7 ?_
  refine lv_isub hx hb d_J_bitCount_8 ?_
  refine lv_istore_n (lv' := [(0, .int (x0 - (((x0 : Int32).toUInt32 >>> ((1 : Int32).toUInt32 &&& Int32.toUInt32 31)).toInt32 &&& 1431655765)))]) hx hb d_J_bitCount_9 rfl hl (by decide) rfl (fun ls hl => ?_)
  refine lv_iload_n hx hb d_J_bitCount_10 rfl (lv_at hl 0 rfl) ?_
  refine lv_ldcw (v := 858993459) hx hb hown hk1 d_J_bitCount_11 ?_
  refine lv_iand hx hb d_J_bitCount_14 ?_
  refine lv_iload_n hx hb d_J_bitCount_15 rfl (lv_at hl 0 rfl) ?_
  refine lv_iconst (v := 2) hx hb d_J_bitCount_16 (by decide) ?_
  refine lv_iushr (v := (((x0 - (((x0 : Int32).toUInt32 >>> ((1 : Int32).toUInt32 &&& Int32.toUInt32 31)).toInt32 &&& 1431655765)) : Int32).toUInt32 >>> ((2 : Int32).toUInt32 &&& Int32.toUInt32 31)).toInt32) hx hb d_J_bitCount_17 rfl ?_
  refine lv_ldcw (v := 858993459) hx hb hown hk1 d_J_bitCount_18 ?_
  refine lv_iand hx hb d_J_bitCount_21 ?_
  refine lv_iadd hx hb d_J_bitCount_22 ?_
  refine lv_istore_n (lv' := [(0, .int (((x0 - (((x0 : Int32).toUInt32 >>> ((1 : Int32).toUInt32 &&& Int32.toUInt32 31)).toInt32 &&& 1431655765)) &&& 858993459) + ((((x0 - (((x0 : Int32).toUInt32 >>> ((1 : Int32).toUInt32 &&& Int32.toUInt32 31)).toInt32 &&& 1431655765)) : Int32).toUInt32 >>> ((2 : Int32).toUInt32 &&& Int32.toUInt32 31)).toInt32 &&& 858993459)))]) hx hb d_J_bitCount_23 rfl hl (by decide) rfl (fun ls hl => ?_)
  refine lv_iload_n hx hb d_J_bitCount_24 rfl (lv_at hl 0 rfl) ?_
  refine lv_iload_n hx hb d_J_bitCount_25 rfl (lv_at hl 0 rfl) ?_
  refine lv_iconst (v := 4) hx hb d_J_bitCount_26 (by decide) ?_
  refine lv_iushr (v := (((((x0 - (((x0 : Int32).toUInt32 >>> ((1 : Int32).toUInt32 &&& Int32.toUInt32 31)).toInt32 &&& 1431655765)) &&& 858993459) + ((((x0 - (((x0 : Int32).toUInt32 >>> ((1 : Int32).toUInt32 &&& Int32.toUInt32 31)).toInt32 &&& 1431655765)) : Int32).toUInt32 >>> ((2 : Int32).toUInt32 &&& Int32.toUInt32 31)).toInt32 &&& 858993459)) : Int32).toUInt32 >>> ((4 : Int32).toUInt32 &&& Int32.toUInt32 31)).toInt32) hx hb d_J_bitCount_27 rfl ?_
  refine lv_iadd hx hb d_J_bitCount_28 ?_
  refine lv_ldcw (v := 252645135) hx hb hown hk2 d_J_bitCount_29 ?_
  refine lv_iand hx hb d_J_bitCount_32 ?_
  refine lv_istore_n (lv' := [(0, .int (((((x0 - (((x0 : Int32).toUInt32 >>> ((1 : Int32).toUInt32 &&& Int32.toUInt32 31)).toInt32 &&& 1431655765)) &&& 858993459) + ((((x0 - (((x0 : Int32).toUInt32 >>> ((1 : Int32).toUInt32 &&& Int32.toUInt32 31)).toInt32 &&& 1431655765)) : Int32).toUInt32 >>> ((2 : Int32).toUInt32 &&& Int32.toUInt32 31)).toInt32 &&& 858993459)) + (((((x0 - (((x0 : Int32).toUInt32 >>> ((1 : Int32).toUInt32 &&& Int32.toUInt32 31)).toInt32 &&& 1431655765)) &&& 858993459) + ((((x0 - (((x0 : Int32).toUInt32 >>> ((1 : Int32).toUInt32 &&& Int32.toUInt32 31)).toInt32 &&& 1431655765)) : Int32).toUInt32 >>> ((2 : Int32).toUInt32 &&& Int32.toUInt32 31)).toInt32 &&& 858993459)) : Int32).toUInt32 >>> ((4 : Int32).toUInt32 &&& Int32.toUInt32 31)).toInt32) &&& 252645135))]) hx hb d_J_bitCount_33 rfl hl (by decide) rfl (fun ls hl => ?_)
  refine lv_iload_n hx hb d_J_bitCount_34 rfl (lv_at hl 0 rfl) ?_
  refine lv_iload_n hx hb d_J_bitCount_35 rfl (lv_at hl 0 rfl) ?_
  refine lv_bipush (v := 8) hx hb d_J_bitCount_36 (by decide) ?_
  refine lv_iushr (v := (((((((x0 - (((x0 : Int32).toUInt32 >>> ((1 : Int32).toUInt32 &&& Int32.toUInt32 31)).toInt32 &&& 1431655765)) &&& 858993459) + ((((x0 - (((x0 : Int32).toUInt32 >>> ((1 : Int32).toUInt32 &&& Int32.toUInt32 31)).toInt32 &&& 1431655765)) : Int32).toUInt32 >>> ((2 : Int32).toUInt32 &&& Int32.toUInt32 31)).toInt32 &&& 858993459)) + (((((x0 - (((x0 : Int32).toUInt32 >>> ((1 : Int32).toUInt32 &&& Int32.toUInt32 31)).toInt32 &&& 1431655765)) &&& 858993459) + ((((x0 - (((x0 : Int32).toUInt32 >>> ((1 : Int32).toUInt32 &&& Int32.toUInt32 31)).toInt32 &&& 1431655765)) : Int32).toUInt32 >>> ((2 : Int32).toUInt32 &&& Int32.toUInt32 31)).toInt32 &&& 858993459)) : Int32).toUInt32 >>> ((4 : Int32).toUInt32 &&& Int32.toUInt32 31)).toInt32) &&& 252645135) : Int32).toUInt32 >>> ((8 : Int32).toUInt32 &&& Int32.toUInt32 31)).toInt32) hx hb d_J_bitCount_38 rfl ?_
  refine lv_iadd hx hb d_J_bitCount_39 ?_
  refine lv_istore_n (lv' := [(0, .int ((((((x0 - (((x0 : Int32).toUInt32 >>> ((1 : Int32).toUInt32 &&& Int32.toUInt32 31)).toInt32 &&& 1431655765)) &&& 858993459) + ((((x0 - (((x0 : Int32).toUInt32 >>> ((1 : Int32).toUInt32 &&& Int32.toUInt32 31)).toInt32 &&& 1431655765)) : Int32).toUInt32 >>> ((2 : Int32).toUInt32 &&& Int32.toUInt32 31)).toInt32 &&& 858993459)) + (((((x0 - (((x0 : Int32).toUInt32 >>> ((1 : Int32).toUInt32 &&& Int32.toUInt32 31)).toInt32 &&& 1431655765)) &&& 858993459) + ((((x0 - (((x0 : Int32).toUInt32 >>> ((1 : Int32).toUInt32 &&& Int32.toUInt32 31)).toInt32 &&& 1431655765)) : Int32).toUInt32 >>> ((2 : Int32).toUInt32 &&& Int32.toUInt32 31)).toInt32 &&& 858993459)) : Int32).toUInt32 >>> ((4 : Int32).toUInt32 &&& Int32.toUInt32 31)).toInt32) &&& 252645135) + (((((((x0 - (((x0 : Int32).toUInt32 >>> ((1 : Int32).toUInt32 &&& Int32.toUInt32 31)).toInt32 &&& 1431655765)) &&& 858993459) + ((((x0 - (((x0 : Int32).toUInt32 >>> ((1 : Int32).toUInt32 &&& Int32.toUInt32 31)).toInt32 &&& 1431655765)) : Int32).toUInt32 >>> ((2 : Int32).toUInt32 &&& Int32.toUInt32 31)).toInt32 &&& 858993459)) + (((((x0 - (((x0 : Int32).toUInt32 >>> ((1 : Int32).toUInt32 &&& Int32.toUInt32 31)).toInt32 &&& 1431655765)) &&& 858993459) + ((((x0 - (((x0 : Int32).toUInt32 >>> ((1 : Int32).toUInt32 &&& Int32.toUInt32 31)).toInt32 &&& 1431655765)) : Int32).toUInt32 >>> ((2 : Int32).toUInt32 &&& Int32.toUInt32 31)).toInt32 &&& 858993459)) : Int32).toUInt32 >>> ((4 : Int32).toUInt32 &&& Int32.toUInt32 31)).toInt32) &&& 252645135) : Int32).toUInt32 >>> ((8 : Int32).toUInt32 &&& Int32.toUInt32 31)).toInt32))]) hx hb d_J_bitCount_40 rfl hl (by decide) rfl (fun ls hl => ?_)
  refine lv_iload_n hx hb d_J_bitCount_41 rfl (lv_at hl 0 rfl) ?_
  refine lv_iload_n hx hb d_J_bitCount_42 rfl (lv_at hl 0 rfl) ?_
  refine lv_bipush (v := 16) hx hb d_J_bitCount_43 (by decide) ?_
  refine lv_iushr (v := ((((((((x0 - (((x0 : Int32).toUInt32 >>> ((1 : Int32).toUInt32 &&& Int32.toUInt32 31)).toInt32 &&& 1431655765)) &&& 858993459) + ((((x0 - (((x0 : Int32).toUInt32 >>> ((1 : Int32).toUInt32 &&& Int32.toUInt32 31)).toInt32 &&& 1431655765)) : Int32).toUInt32 >>> ((2 : Int32).toUInt32 &&& Int32.toUInt32 31)).toInt32 &&& 858993459)) + (((((x0 - (((x0 : Int32).toUInt32 >>> ((1 : Int32).toUInt32 &&& Int32.toUInt32 31)).toInt32 &&& 1431655765)) &&& 858993459) + ((((x0 - (((x0 : Int32).toUInt32 >>> ((1 : Int32).toUInt32 &&& Int32.toUInt32 31)).toInt32 &&& 1431655765)) : Int32).toUInt32 >>> ((2 : Int32).toUInt32 &&& Int32.toUInt32 31)).toInt32 &&& 858993459)) : Int32).toUInt32 >>> ((4 : Int32).toUInt32 &&& Int32.toUInt32 31)).toInt32) &&& 252645135) + (((((((x0 - (((x0 : Int32).toUInt32 >>> ((1 : Int32).toUInt32 &&& Int32.toUInt32 31)).toInt32 &&& 1431655765)) &&& 858993459) + ((((x0 - (((x0 : Int32).toUInt32 >>> ((1 : Int32).toUInt32 &&& Int32.toUInt32 31)).toInt32 &&& 1431655765)) : Int32).toUInt32 >>> ((2 : Int32).toUInt32 &&& Int32.toUInt32 31)).toInt32 &&& 858993459)) + (((((x0 - (((x0 : Int32).toUInt32 >>> ((1 : Int32).toUInt32 &&& Int32.toUInt32 31)).toInt32 &&& 1431655765)) &&& 858993459) + ((((x0 - (((x0 : Int32).toUInt32 >>> ((1 : Int32).toUInt32 &&& Int32.toUInt32 31)).toInt32 &&& 1431655765)) : Int32).toUInt32 >>> ((2 : Int32).toUInt32 &&& Int32.toUInt32 31)).toInt32 &&& 858993459)) : Int32).toUInt32 >>> ((4 : Int32).toUInt32 &&& Int32.toUInt32 31)).toInt32) &&& 252645135) : Int32).toUInt32 >>> ((8 : Int32).toUInt32 &&& Int32.toUInt32 31)).toInt32) : Int32).toUInt32 >>> ((16 : Int32).toUInt32 &&& Int32.toUInt32 31)).toInt32) hx hb d_J_bitCount_45 rfl ?_
  refine lv_iadd hx hb d_J_bitCount_46 ?_
  refine lv_istore_n (lv' := [(0, .int (((((((x0 - (((x0 : Int32).toUInt32 >>> ((1 : Int32).toUInt32 &&& Int32.toUInt32 31)).toInt32 &&& 1431655765)) &&& 858993459) + ((((x0 - (((x0 : Int32).toUInt32 >>> ((1 : Int32).toUInt32 &&& Int32.toUInt32 31)).toInt32 &&& 1431655765)) : Int32).toUInt32 >>> ((2 : Int32).toUInt32 &&& Int32.toUInt32 31)).toInt32 &&& 858993459)) + (((((x0 - (((x0 : Int32).toUInt32 >>> ((1 : Int32).toUInt32 &&& Int32.toUInt32 31)).toInt32 &&& 1431655765)) &&& 858993459) + ((((x0 - (((x0 : Int32).toUInt32 >>> ((1 : Int32).toUInt32 &&& Int32.toUInt32 31)).toInt32 &&& 1431655765)) : Int32).toUInt32 >>> ((2 : Int32).toUInt32 &&& Int32.toUInt32 31)).toInt32 &&& 858993459)) : Int32).toUInt32 >>> ((4 : Int32).toUInt32 &&& Int32.toUInt32 31)).toInt32) &&& 252645135) + (((((((x0 - (((x0 : Int32).toUInt32 >>> ((1 : Int32).toUInt32 &&& Int32.toUInt32 31)).toInt32 &&& 1431655765)) &&& 858993459) + ((((x0 - (((x0 : Int32).toUInt32 >>> ((1 : Int32).toUInt32 &&& Int32.toUInt32 31)).toInt32 &&& 1431655765)) : Int32).toUInt32 >>> ((2 : Int32).toUInt32 &&& Int32.toUInt32 31)).toInt32 &&& 858993459)) + (((((x0 - (((x0 : Int32).toUInt32 >>> ((1 : Int32).toUInt32 &&& Int32.toUInt32 31)).toInt32 &&& 1431655765)) &&& 858993459) + ((((x0 - (((x0 : Int32).toUInt32 >>> ((1 : Int32).toUInt32 &&& Int32.toUInt32 31)).toInt32 &&& 1431655765)) : Int32).toUInt32 >>> ((2 : Int32).toUInt32 &&& Int32.toUInt32 31)).toInt32 &&& 858993459)) : Int32).toUInt32 >>> ((4 : Int32).toUInt32 &&& Int32.toUInt32 31)).toInt32) &&& 252645135) : Int32).toUInt32 >>> ((8 : Int32).toUInt32 &&& Int32.toUInt32 31)).toInt32) + ((((((((x0 - (((x0 : Int32).toUInt32 >>> ((1 : Int32).toUInt32 &&& Int32.toUInt32 31)).toInt32 &&& 1431655765)) &&& 858993459) + ((((x0 - (((x0 : Int32).toUInt32 >>> ((1 : Int32).toUInt32 &&& Int32.toUInt32 31)).toInt32 &&& 1431655765)) : Int32).toUInt32 >>> ((2 : Int32).toUInt32 &&& Int32.toUInt32 31)).toInt32 &&& 858993459)) + (((((x0 - (((x0 : Int32).toUInt32 >>> ((1 : Int32).toUInt32 &&& Int32.toUInt32 31)).toInt32 &&& 1431655765)) &&& 858993459) + ((((x0 - (((x0 : Int32).toUInt32 >>> ((1 : Int32).toUInt32 &&& Int32.toUInt32 31)).toInt32 &&& 1431655765)) : Int32).toUInt32 >>> ((2 : Int32).toUInt32 &&& Int32.toUInt32 31)).toInt32 &&& 858993459)) : Int32).toUInt32 >>> ((4 : Int32).toUInt32 &&& Int32.toUInt32 31)).toInt32) &&& 252645135) + (((((((x0 - (((x0 : Int32).toUInt32 >>> ((1 : Int32).toUInt32 &&& Int32.toUInt32 31)).toInt32 &&& 1431655765)) &&& 858993459) + ((((x0 - (((x0 : Int32).toUInt32 >>> ((1 : Int32).toUInt32 &&& Int32.toUInt32 31)).toInt32 &&& 1431655765)) : Int32).toUInt32 >>> ((2 : Int32).toUInt32 &&& Int32.toUInt32 31)).toInt32 &&& 858993459)) + (((((x0 - (((x0 : Int32).toUInt32 >>> ((1 : Int32).toUInt32 &&& Int32.toUInt32 31)).toInt32 &&& 1431655765)) &&& 858993459) + ((((x0 - (((x0 : Int32).toUInt32 >>> ((1 : Int32).toUInt32 &&& Int32.toUInt32 31)).toInt32 &&& 1431655765)) : Int32).toUInt32 >>> ((2 : Int32).toUInt32 &&& Int32.toUInt32 31)).toInt32 &&& 858993459)) : Int32).toUInt32 >>> ((4 : Int32).toUInt32 &&& Int32.toUInt32 31)).toInt32) &&& 252645135) : Int32).toUInt32 >>> ((8 : Int32).toUInt32 &&& Int32.toUInt32 31)).toInt32) : Int32).toUInt32 >>> ((16 : Int32).toUInt32 &&& Int32.toUInt32 31)).toInt32))]) hx hb d_J_bitCount_47 rfl hl (by decide) rfl (fun ls hl => ?_)
  refine lv_iload_n hx hb d_J_bitCount_48 rfl (lv_at hl 0 rfl) ?_
  refine lv_bipush (v := 63) hx hb d_J_bitCount_49 (by decide) ?_
  refine lv_iand hx hb d_J_bitCount_51 ?_
  cases hm
  exact W.iret hx hb hr (fun t ht hW => ⟨_, rfl, rfl, ht⟩) (fun _ h => nomatch h) d_J_bitCount_52

def w_S_bestSet : List Cond := .code y_S_bestSet b_S_bestSet 10 (some .int) :: W0
theorem q_S_bestSet : y_S_bestSet.cls = R_S ∧ y_S_bestSet.cls ≠ "java/lang/invoke/MethodHandle" ∧ y_S_bestSet.cls ≠ "java/lang/invoke/VarHandle" ∧ (parseMethodDescriptor y_S_bestSet.desc).map (fun d => d.parameters.length) = some 1 := by decide +kernel
def L_S_bestSet_17 (N : Nat) (p_wides : Nat → Int32) (p_lengths : Nat → Int32) (o_wides : Nat → Int32) (o_lengths : Nat → Int32) (o_count : Int32) (s_cameOn : Nat → Int32) (s_told : Nat → Int32) (s_today : Int32) (s_cutOff : Int32) (s_agingOff : Int32) (K : Int32 → Int32 → Int32 → Int32 → Int32 → Int32 → Option Int32) : Nat → Int32 → Int32 → Int32 → Int32 → Int32 → Int32 → Option Int32
  | 0, _, _, _, _, _, _ => none
  | n + 1, y1a, y2a, y3a, y4a, y5a, y6a =>
    (if y2a < y6a then
    K y1a y2a y3a y4a y5a y6a
   else
    ((m_J_bitCount y6a).bind fun r2 =>
      (if (y6a &&& (y2a ^^^ (-1))) = 0 then
        (if r2 < y4a then
          L_S_bestSet_17 N p_wides p_lengths o_wides o_lengths o_count s_cameOn s_told s_today s_cutOff s_agingOff K n y1a y2a y3a y4a y5a (y6a + 1)
         else
          (if 5 < r2 then
            L_S_bestSet_17 N p_wides p_lengths o_wides o_lengths o_count s_cameOn s_told s_today s_cutOff s_agingOff K n y1a y2a y3a y4a y5a (y6a + 1)
           else
            ((m_B_totalLength N o_lengths o_count y6a).bind fun r3 =>
              ((m_B_lengthOf p_lengths y1a).bind fun r4 =>
                (if r4 < r3 then
                  L_S_bestSet_17 N p_wides p_lengths o_wides o_lengths o_count s_cameOn s_told s_today s_cutOff s_agingOff K n y1a y2a y3a y4a y5a (y6a + 1)
                 else
                  ((m_S_totalWorth N p_wides p_lengths o_wides o_lengths o_count s_cameOn s_told s_today s_cutOff s_agingOff y1a y6a).bind fun r5 =>
                    (if y4a < r2 then
                      L_S_bestSet_17 N p_wides p_lengths o_wides o_lengths o_count s_cameOn s_told s_today s_cutOff s_agingOff K n y1a y2a y6a r2 r5 (y6a + 1)
                     else
                      (if r5 ≤ y5a then
                        L_S_bestSet_17 N p_wides p_lengths o_wides o_lengths o_count s_cameOn s_told s_today s_cutOff s_agingOff K n y1a y2a y3a y4a y5a (y6a + 1)
                       else
                        L_S_bestSet_17 N p_wides p_lengths o_wides o_lengths o_count s_cameOn s_told s_today s_cutOff s_agingOff K n y1a y2a y6a r2 r5 (y6a + 1)))))))))
       else
        L_S_bestSet_17 N p_wides p_lengths o_wides o_lengths o_count s_cameOn s_told s_today s_cutOff s_agingOff K n y1a y2a y3a y4a y5a (y6a + 1))))
def m_S_bestSet (N : Nat) (p_thicks : Nat → Int32) (p_wides : Nat → Int32) (p_lengths : Nat → Int32) (p_grades : Nat → Int32) (o_thicks : Nat → Int32) (o_wides : Nat → Int32) (o_lengths : Nat → Int32) (o_grades : Nat → Int32) (o_count : Int32) (s_cameOn : Nat → Int32) (s_told : Nat → Int32) (u_ordersOfPiece : Nat → Int32) (u_usedOrders : Int32) (h_orderOfPiece : Nat → Int32) (h_heldOrders : Int32) (s_today : Int32) (s_cutOff : Int32) (s_agingOff : Int32) (x1 : Int32) : Option Int32 :=
  ((m_S_openOrders N p_thicks p_wides p_lengths p_grades o_thicks o_wides o_lengths o_grades o_count u_ordersOfPiece u_usedOrders h_orderOfPiece h_heldOrders x1).bind fun r1 =>
  L_S_bestSet_17 N p_wides p_lengths o_wides o_lengths o_count s_cameOn s_told s_today s_cutOff s_agingOff (fun y1a y2a y3a y4a y5a y6a =>
    some y3a) N x1 r1 0 0 0 1)
set_option maxHeartbeats 4000000 in
set_option maxRecDepth 100000 in
theorem c_S_bestSet (l : Launch) (dC : Nat → ClassId) (dI : Nat → Nat → Nat) (cI : ClassId) (sq pq pq1 pq2 pq3 pq4 oq oq1 oq2 oq3 oq4 sq3 sq4 uq uq1 hq hq1 hq2 mq mq1 mq2 mq3 mq4 mq5 : Nat) (p_thicks : Nat → Int32) (p_wides : Nat → Int32) (p_lengths : Nat → Int32) (p_grades : Nat → Int32) (p_count : Int32) (o_thicks : Nat → Int32) (o_wides : Nat → Int32) (o_lengths : Nat → Int32) (o_grades : Nat → Int32) (o_count : Int32) (s_cameOn : Nat → Int32) (s_told : Nat → Int32) (u_ordersOfPiece : Nat → Int32) (u_usedOrders : Int32) (h_orderOfPiece : Nat → Int32) (h_lastDay : Nat → Int32) (h_heldOrders : Int32) (m_gains : Nat → Int32) (m_best : Nat → Int32) (m_chosen : Nat → Int32) (m_pieceDuals : Nat → Int32) (m_orderDuals : Nat → Int32) (m_pieceCount : Int32) (m_orderCount : Int32) (m_pairs : Int32) (m_worthSum : Int32) (m_upToDate : Int32) (s_today : Int32) (s_cutOff : Int32) (s_agingOff : Int32) (s_saleAge : Int32) (x1 : Int32) (N : Nat) (res : Int32) (hm : m_S_bestSet N p_thicks p_wides p_lengths p_grades o_thicks o_wides o_lengths o_grades o_count s_cameOn s_told u_ordersOfPiece u_usedOrders h_orderOfPiece h_heldOrders s_today s_cutOff s_agingOff x1 = some res) : Met l y_S_bestSet w_S_bestSet ({ frames := 4, cells := 0, slots := 0, locals := 88 } : Room) (va_Pc [.ref sq, .int x1] (fun U => va_P (dC, dI) classes [(sq, .inr (4, [.ref pq, .ref oq, .ref sq3, .ref sq4, .ref uq, .ref hq, .ref mq, .int s_today, .int s_cutOff, .int s_agingOff, .int s_saleAge])), (pq, .inr (0, [.ref pq1, .ref pq2, .ref pq3, .ref pq4, .int p_count])), (pq1, .inl (cI, 10, .inl p_thicks)), (pq2, .inl (cI, 10, .inl p_wides)), (pq3, .inl (cI, 10, .inl p_lengths)), (pq4, .inl (cI, 10, .inl p_grades)), (oq, .inr (0, [.ref oq1, .ref oq2, .ref oq3, .ref oq4, .int o_count])), (oq1, .inl (cI, 10, .inl o_thicks)), (oq2, .inl (cI, 10, .inl o_wides)), (oq3, .inl (cI, 10, .inl o_lengths)), (oq4, .inl (cI, 10, .inl o_grades)), (sq3, .inl (cI, 10, .inl s_cameOn)), (sq4, .inl (cI, 100, .inl s_told)), (uq, .inr (1, [.ref uq1, .int u_usedOrders])), (uq1, .inl (cI, 10, .inl u_ordersOfPiece)), (hq, .inr (2, [.ref hq1, .ref hq2, .int h_heldOrders])), (hq1, .inl (cI, 10, .inl h_orderOfPiece)), (hq2, .inl (cI, 10, .inl h_lastDay)), (mq, .inr (3, [.ref mq1, .ref mq2, .ref mq3, .ref mq4, .ref mq5, .int m_pieceCount, .int m_orderCount, .int m_pairs, .int m_worthSum, .int m_upToDate])), (mq1, .inl (cI, 100, .inl m_gains)), (mq2, .inl (cI, 11264, .inl m_best)), (mq3, .inl (cI, 10, .inl m_chosen)), (mq4, .inl (cI, 10, .inl m_pieceDuals)), (mq5, .inl (cI, 10, .inl m_orderDuals))] U.heap ∧ va_K (dC, dI) classes [(cI, .int)] U ∧ nw U)) (vp_Si (fun x => res = x)) 0 0 (fun _ => False) := by
  unfold m_S_bestSet at hm
  refine Met.ofW (cc := b_S_bestSet) (maxL := 10) (ret := (some .int)) (by decide) rfl ?_
  intro p e s m args below meth c s₁ B hml hv
  obtain ⟨rfl, hP, hK, hN⟩ := hv
  have hx := B.exec
  have hb := B.bytes
  have hr := B.returns
  have hts := atoms_spec (ws := w_S_bestSet) B.pre
  have hown : s.vm.findClass R_S = some m.cls := findClass_of_methodNamed B.named
  have hlocks := B.notSynchronized
  have hk0 := hts (.fieldLink R_S 16 "SurplusMatch" "orders" "LSurplusMatch$Boards;") (List.mem_cons_of_mem _ (w0 142 rfl))
  have hk1 : ∀ w ∈ w_S, w ∈ w_S_bestSet := fun w h => List.mem_cons_of_mem _ (i_S w h)
  have hk2 := hts (.fieldLink R_S 10 "SurplusMatch" "pieces" "LSurplusMatch$Boards;") (List.mem_cons_of_mem _ (w0 141 rfl))
  have hl := lv_entry ([.ref sq, .int x1]) (n := 10) (Nat.le_of_ble_eq_true rfl)
  rw [lg_entry_eq]
  generalize (lg_sl ([.ref sq, .int x1]) ++ List.replicate (10 - (lg_sl ([.ref sq, .int x1])).length) Slot.unset).toArray = ls at hl ⊢
  have hl : lv_has ls 10 [(0, .ref sq), (1, .int x1)] := hl
  refine lv_aload_n hx hb d_S_bestSet_0 rfl (lv_at hl 0 rfl) ?_
  refine lv_iload_n hx hb d_S_bestSet_1 rfl (lv_at hl 1 rfl) ?_
  obtain ⟨r1, hc, hm⟩ := bd hm
  try dsimp only at hm
  refine vp_callSi (W.runV (As := [.int x1]) (rest := []) ⟨hx, hb, hml, hown, hts⟩ (c_S_openOrders l dC dI cI sq pq pq1 pq2 pq3 pq4 oq oq1 oq2 oq3 oq4 sq3 sq4 uq uq1 hq hq1 hq2 mq mq1 mq2 mq3 mq4 mq5 p_thicks p_wides p_lengths p_grades p_count o_thicks o_wides o_lengths o_grades o_count s_cameOn s_told u_ordersOfPiece u_usedOrders h_orderOfPiece h_lastDay h_heldOrders m_gains m_best m_chosen m_pieceDuals m_orderDuals m_pieceCount m_orderCount m_pairs m_worthSum m_upToDate s_today s_cutOff s_agingOff s_saleAge x1 N r1 hc) (cwV 1 hts (gV (w0 497 rfl) (w0 498 rfl) (w0 15 rfl) (w0 28 rfl) (w0 499 rfl)) rfl rfl rfl q_S_openOrders ⟨Nat.le_of_ble_eq_true rfl, Nat.le_of_ble_eq_true rfl⟩) (ro_preV [0, 1, 2, 3, 4, 5, 6, 7, 8, 9, 10, 11, 12, 13, 14, 15, 16, 17, 18, 19, 20, 21, 22, 23] rfl hK hP hN 4 0 (R_S, F_S, 11) rfl rfl) rfl rfl hl.1 rfl (lv_room (Nat.le_of_ble_eq_true rfl)) d_S_bestSet_2 ⟨Nat.le_of_ble_eq_true rfl, Nat.le_of_ble_eq_true rfl⟩) (fun r9 hr9 => ?_)
  subst hr9
  refine lv_istore_n (lv' := [(2, .int r1), (0, .ref sq), (1, .int x1)]) hx hb d_S_bestSet_5 rfl hl (by decide) rfl (fun ls hl => ?_)
  refine lv_iconst (v := 0) hx hb d_S_bestSet_6 (by decide) ?_
  refine lv_istore_n (lv' := [(3, .int 0), (2, .int r1), (0, .ref sq), (1, .int x1)]) hx hb d_S_bestSet_7 rfl hl (by decide) rfl (fun ls hl => ?_)
  refine lv_iconst (v := 0) hx hb d_S_bestSet_8 (by decide) ?_
  refine lv_istore (lv' := [(4, .int 0), (3, .int 0), (2, .int r1), (0, .ref sq), (1, .int x1)]) hx hb d_S_bestSet_9 hl (by decide) rfl (fun ls hl => ?_)
  refine lv_iconst (v := 0) hx hb d_S_bestSet_11 (by decide) ?_
  refine lv_istore (lv' := [(5, .int 0), (4, .int 0), (3, .int 0), (2, .int r1), (0, .ref sq), (1, .int x1)]) hx hb d_S_bestSet_12 hl (by decide) rfl (fun ls hl => ?_)
  refine lv_iconst (v := 1) hx hb d_S_bestSet_14 (by decide) ?_
  refine lv_istore (lv' := [(6, .int 1), (5, .int 0), (4, .int 0), (3, .int 0), (2, .int r1), (0, .ref sq), (1, .int x1)]) hx hb d_S_bestSet_15 hl (by decide) rfl (fun ls hl => ?_)
  have key17 : ∀ (K : Int32 → Int32 → Int32 → Int32 → Int32 → Int32 → Option Int32) (_ : ∀ (y1a : Int32) (y2a : Int32) (y3a : Int32) (y4a : Int32) (y5a : Int32) (y6a : Int32) (ls : Array Slot), lv_has ls 10 [(0, .ref sq), (1, .int y1a), (2, .int y2a), (3, .int y3a), (4, .int y4a), (5, .int y5a), (6, .int y6a)] → K y1a y2a y3a y4a y5a y6a = some res → W p l e (headSpec w_S_bestSet ({ frames := 4, cells := 0, slots := 0, locals := 88 } : Room)).room s m ([.ref sq, .int x1] : List Value).toArray below meth c s.heap [] 0 0 (MQ below (vp_Si (fun x => res = x)) ([.ref sq, .int x1] : List Value).toArray s 0 0 (fun _ => False)) (F0 m 124 ls [])) (n : Nat) (y1a : Int32) (y2a : Int32) (y3a : Int32) (y4a : Int32) (y5a : Int32) (y6a : Int32) (ls : Array Slot), lv_has ls 10 [(0, .ref sq), (1, .int y1a), (2, .int y2a), (3, .int y3a), (4, .int y4a), (5, .int y5a), (6, .int y6a)] → L_S_bestSet_17 N p_wides p_lengths o_wides o_lengths o_count s_cameOn s_told s_today s_cutOff s_agingOff K n y1a y2a y3a y4a y5a y6a = some res → W p l e (headSpec w_S_bestSet ({ frames := 4, cells := 0, slots := 0, locals := 88 } : Room)).room s m ([.ref sq, .int x1] : List Value).toArray below meth c s.heap [] 0 0 (MQ below (vp_Si (fun x => res = x)) ([.ref sq, .int x1] : List Value).toArray s 0 0 (fun _ => False)) (F0 m 17 ls []) := by
    intro K hK17 n
    induction n with
    | zero => intro y1a y2a y3a y4a y5a y6a ls hl hm; exact absurd hm (by simp [L_S_bestSet_17])
    | succ n ih17 =>
      intro y1a y2a y3a y4a y5a y6a ls hl hm
      rw [L_S_bestSet_17] at hm
      refine lv_iload hx hb d_S_bestSet_17 (lv_at hl 6 rfl) ?_
      refine lv_iload_n hx hb d_S_bestSet_19 rfl (lv_at hl 2 rfl) ?_
      refine lv_icmp_gt (tgt := 124) hx hb d_S_bestSet_20 (by decide) (fun c9 => ?_) (fun c9 => ?_)
      · replace hm := if_t c9 hm
        have hl : lv_has ls 10 [(0, .ref sq), (1, .int y1a), (2, .int y2a), (3, .int y3a), (4, .int y4a), (5, .int y5a), (6, .int y6a)] := lv_sub hl [0, 1, 2, 3, 4, 5, 6] rfl
        exact hK17 y1a y2a y3a y4a y5a y6a ls hl hm
      · replace hm := if_f c9 hm
        refine lv_iload hx hb d_S_bestSet_23 (lv_at hl 6 rfl) ?_
        obtain ⟨r2, hc, hm⟩ := bd hm
        try dsimp only at hm
        refine vp_callSi (W.runS (As := [.int y6a]) (rest := []) ⟨hx, hb, hml, hown, hts⟩ (c_J_bitCount l dC dI cI y6a N r2 hc) (va_cwS 1 hts (gT (w0 500 rfl) (w0 501 rfl) (w0 43 rfl) (w0 502 rfl)) rfl rfl rfl q_J_bitCount.2 ⟨Nat.le_of_ble_eq_true rfl, Nat.le_of_ble_eq_true rfl⟩) ro_pre0 rfl rfl hl.1 rfl (lv_room (Nat.le_of_ble_eq_true rfl)) d_S_bestSet_25 ⟨Nat.le_of_ble_eq_true rfl, Nat.le_of_ble_eq_true rfl⟩) (fun r9 hr9 => ?_)
        subst hr9
        refine lv_istore (lv' := [(7, .int r2), (0, .ref sq), (1, .int y1a), (2, .int y2a), (3, .int y3a), (4, .int y4a), (5, .int y5a), (6, .int y6a)]) hx hb d_S_bestSet_28 hl (by decide) rfl (fun ls hl => ?_)
        refine lv_iload hx hb d_S_bestSet_30 (lv_at hl 7 rfl) ?_
        refine lv_iload_n hx hb d_S_bestSet_32 rfl (lv_at hl 3 rfl) ?_
        refine lv_iconst (v := (-1)) hx hb d_S_bestSet_33 (by decide) ?_
        refine lv_ixor hx hb d_S_bestSet_34 ?_
        refine lv_iand hx hb d_S_bestSet_35 ?_
        refine lv_if_ne (tgt := 56) hx hb d_S_bestSet_36 (by decide) (fun c9 => ?_) (fun c9 => ?_)
        · replace hm := if_f c9 hm
          refine lv_iconst (v := 0) hx hb d_S_bestSet_56 (by decide) ?_
          refine lv_istore (lv' := [(8, .int 0), (7, .int r2), (0, .ref sq), (1, .int y1a), (2, .int y2a), (3, .int y3a), (4, .int y4a), (5, .int y5a), (6, .int y6a)]) hx hb d_S_bestSet_57 hl (by decide) rfl (fun ls hl => ?_)
          refine lv_iload hx hb d_S_bestSet_59 (lv_at hl 0 rfl) ?_
          refine lv_if_eq (tgt := 118) hx hb d_S_bestSet_61 (by decide) (fun c9 => ?_) (fun c9 => absurd (by decide) c9)
          clear c9
          refine lv_iinc (v := (y6a + 1)) (lv' := [(6, .int (y6a + 1)), (8, .int 0), (7, .int r2), (0, .ref sq), (1, .int y1a), (2, .int y2a), (3, .int y3a), (4, .int y4a), (5, .int y5a)]) hx hb d_S_bestSet_118 hl (k := 8) rfl rfl (by decide) rfl (fun ls hl => ?_)
          refine lv_goto (tgt := 17) hx hb d_S_bestSet_121 (by decide) ?_
          have hl : lv_has ls 10 [(0, .ref sq), (1, .int y1a), (2, .int y2a), (3, .int y3a), (4, .int y4a), (5, .int y5a), (6, .int (y6a + 1))] := lv_sub hl [3, 4, 5, 6, 7, 8, 0] rfl
          exact ih17 y1a y2a y3a y4a y5a (y6a + 1) ls hl hm
        · replace hm := if_t c9 hm
          refine lv_iload hx hb d_S_bestSet_39 (lv_at hl 0 rfl) ?_
          refine lv_iload hx hb d_S_bestSet_41 (lv_at hl 5 rfl) ?_
          refine lv_icmp_lt (tgt := 56) hx hb d_S_bestSet_43 (by decide) (fun c9 => ?_) (fun c9 => ?_)
          · replace hm := if_t c9 hm
            refine lv_iconst (v := 0) hx hb d_S_bestSet_56 (by decide) ?_
            refine lv_istore (lv' := [(8, .int 0), (7, .int r2), (0, .ref sq), (1, .int y1a), (2, .int y2a), (3, .int y3a), (4, .int y4a), (5, .int y5a), (6, .int y6a)]) hx hb d_S_bestSet_57 hl (by decide) rfl (fun ls hl => ?_)
            refine lv_iload hx hb d_S_bestSet_59 (lv_at hl 0 rfl) ?_
            refine lv_if_eq (tgt := 118) hx hb d_S_bestSet_61 (by decide) (fun c9 => ?_) (fun c9 => absurd (by decide) c9)
            clear c9
            refine lv_iinc (v := (y6a + 1)) (lv' := [(6, .int (y6a + 1)), (8, .int 0), (7, .int r2), (0, .ref sq), (1, .int y1a), (2, .int y2a), (3, .int y3a), (4, .int y4a), (5, .int y5a)]) hx hb d_S_bestSet_118 hl (k := 8) rfl rfl (by decide) rfl (fun ls hl => ?_)
            refine lv_goto (tgt := 17) hx hb d_S_bestSet_121 (by decide) ?_
            have hl : lv_has ls 10 [(0, .ref sq), (1, .int y1a), (2, .int y2a), (3, .int y3a), (4, .int y4a), (5, .int y5a), (6, .int (y6a + 1))] := lv_sub hl [3, 4, 5, 6, 7, 8, 0] rfl
            exact ih17 y1a y2a y3a y4a y5a (y6a + 1) ls hl hm
          · replace hm := if_f c9 hm
            refine lv_iload hx hb d_S_bestSet_46 (lv_at hl 0 rfl) ?_
            refine lv_iconst (v := 5) hx hb d_S_bestSet_48 (by decide) ?_
            refine lv_icmp_gt (tgt := 56) hx hb d_S_bestSet_49 (by decide) (fun c9 => ?_) (fun c9 => ?_)
            · replace hm := if_t c9 hm
              refine lv_iconst (v := 0) hx hb d_S_bestSet_56 (by decide) ?_
              refine lv_istore (lv' := [(8, .int 0), (7, .int r2), (0, .ref sq), (1, .int y1a), (2, .int y2a), (3, .int y3a), (4, .int y4a), (5, .int y5a), (6, .int y6a)]) hx hb d_S_bestSet_57 hl (by decide) rfl (fun ls hl => ?_)
              refine lv_iload hx hb d_S_bestSet_59 (lv_at hl 0 rfl) ?_
              refine lv_if_eq (tgt := 118) hx hb d_S_bestSet_61 (by decide) (fun c9 => ?_) (fun c9 => absurd (by decide) c9)
              clear c9
              refine lv_iinc (v := (y6a + 1)) (lv' := [(6, .int (y6a + 1)), (8, .int 0), (7, .int r2), (0, .ref sq), (1, .int y1a), (2, .int y2a), (3, .int y3a), (4, .int y4a), (5, .int y5a)]) hx hb d_S_bestSet_118 hl (k := 8) rfl rfl (by decide) rfl (fun ls hl => ?_)
              refine lv_goto (tgt := 17) hx hb d_S_bestSet_121 (by decide) ?_
              have hl : lv_has ls 10 [(0, .ref sq), (1, .int y1a), (2, .int y2a), (3, .int y3a), (4, .int y4a), (5, .int y5a), (6, .int (y6a + 1))] := lv_sub hl [3, 4, 5, 6, 7, 8, 0] rfl
              exact ih17 y1a y2a y3a y4a y5a (y6a + 1) ls hl hm
            · replace hm := if_f c9 hm
              refine lv_iconst (v := 1) hx hb d_S_bestSet_52 (by decide) ?_
              refine lv_goto (tgt := 57) hx hb d_S_bestSet_53 (by decide) ?_
              refine lv_istore (lv' := [(8, .int 1), (7, .int r2), (0, .ref sq), (1, .int y1a), (2, .int y2a), (3, .int y3a), (4, .int y4a), (5, .int y5a), (6, .int y6a)]) hx hb d_S_bestSet_57 hl (by decide) rfl (fun ls hl => ?_)
              refine lv_iload hx hb d_S_bestSet_59 (lv_at hl 0 rfl) ?_
              refine lv_if_eq (tgt := 118) hx hb d_S_bestSet_61 (by decide) (fun c9 => absurd c9 (by decide)) (fun c9 => ?_)
              clear c9
              refine lv_aload_n hx hb d_S_bestSet_64 rfl (lv_at hl 2 rfl) ?_
              refine va_get (D := (dC, dI)) (ci := 4) (v := .ref oq) (C := R_S) (T := F_S) (N := 11) hx hb hts hk1 hown hK hP 0 rfl rfl 1 (by decide) hk0 (fun _ h9 => h9) rfl d_S_bestSet_65 ?_
              refine lv_iload hx hb d_S_bestSet_68 (lv_at hl 8 rfl) ?_
              obtain ⟨r3, hc, hm⟩ := bd hm
              try dsimp only at hm
              refine vp_callSi (W.runV (As := [.int y6a]) (rest := []) ⟨hx, hb, hml, hown, hts⟩ (c_B_totalLength l dC dI cI oq oq1 oq2 oq3 oq4 o_thicks o_wides o_lengths o_grades o_count y6a N r3 hc) (cwV 1 hts (gV (w0 506 rfl) (w0 507 rfl) (w0 508 rfl) (w0 29 rfl) (w0 509 rfl)) rfl rfl rfl q_B_totalLength ⟨Nat.le_of_ble_eq_true rfl, Nat.le_of_ble_eq_true rfl⟩) (ro_preV [6, 7, 8, 9, 10] rfl hK hP hN 0 0 (R_B, F_B, 5) rfl rfl) rfl rfl hl.1 rfl (lv_room (Nat.le_of_ble_eq_true rfl)) d_S_bestSet_70 ⟨Nat.le_of_ble_eq_true rfl, Nat.le_of_ble_eq_true rfl⟩) (fun r9 hr9 => ?_)
              subst hr9
              refine lv_aload_n hx hb d_S_bestSet_73 rfl (lv_at hl 2 rfl) ?_
              refine va_get (D := (dC, dI)) (ci := 4) (v := .ref pq) (C := R_S) (T := F_S) (N := 11) hx hb hts hk1 hown hK hP 0 rfl rfl 0 (by decide) hk2 (fun _ h9 => h9) rfl d_S_bestSet_74 ?_
              refine lv_iload_n hx hb d_S_bestSet_77 rfl (lv_at hl 3 rfl) ?_
              obtain ⟨r4, hc, hm⟩ := bd hm
              try dsimp only at hm
              refine vp_callSi (W.runV (As := [.int y1a]) (rest := [.int r3]) ⟨hx, hb, hml, hown, hts⟩ (c_B_lengthOf l dC dI cI pq pq1 pq2 pq3 pq4 p_thicks p_wides p_lengths p_grades p_count y1a N r4 hc) (cwV 1 hts (gV (w0 510 rfl) (w0 511 rfl) (w0 512 rfl) (w0 29 rfl) (w0 513 rfl)) rfl rfl rfl q_B_lengthOf ⟨Nat.le_of_ble_eq_true rfl, Nat.le_of_ble_eq_true rfl⟩) (ro_preV [1, 2, 3, 4, 5] rfl hK hP hN 0 0 (R_B, F_B, 5) rfl rfl) rfl rfl hl.1 rfl (lv_room (Nat.le_of_ble_eq_true rfl)) d_S_bestSet_78 ⟨Nat.le_of_ble_eq_true rfl, Nat.le_of_ble_eq_true rfl⟩) (fun r9 hr9 => ?_)
              subst hr9
              refine lv_icmp_gt (tgt := 118) hx hb d_S_bestSet_81 (by decide) (fun c9 => ?_) (fun c9 => ?_)
              · replace hm := if_t c9 hm
                refine lv_iinc (v := (y6a + 1)) (lv' := [(6, .int (y6a + 1)), (8, .int 1), (7, .int r2), (0, .ref sq), (1, .int y1a), (2, .int y2a), (3, .int y3a), (4, .int y4a), (5, .int y5a)]) hx hb d_S_bestSet_118 hl (k := 8) rfl rfl (by decide) rfl (fun ls hl => ?_)
                refine lv_goto (tgt := 17) hx hb d_S_bestSet_121 (by decide) ?_
                have hl : lv_has ls 10 [(0, .ref sq), (1, .int y1a), (2, .int y2a), (3, .int y3a), (4, .int y4a), (5, .int y5a), (6, .int (y6a + 1))] := lv_sub hl [3, 4, 5, 6, 7, 8, 0] rfl
                exact ih17 y1a y2a y3a y4a y5a (y6a + 1) ls hl hm
              · replace hm := if_f c9 hm
                refine lv_aload_n hx hb d_S_bestSet_84 rfl (lv_at hl 2 rfl) ?_
                refine lv_iload_n hx hb d_S_bestSet_85 rfl (lv_at hl 3 rfl) ?_
                refine lv_iload hx hb d_S_bestSet_86 (lv_at hl 8 rfl) ?_
                obtain ⟨r5, hc, hm⟩ := bd hm
                try dsimp only at hm
                refine vp_callSi (W.runV (As := [.int y1a, .int y6a]) (rest := []) ⟨hx, hb, hml, hown, hts⟩ (c_S_totalWorth l dC dI cI sq pq pq1 pq2 pq3 pq4 oq oq1 oq2 oq3 oq4 sq3 sq4 uq uq1 hq hq1 hq2 mq mq1 mq2 mq3 mq4 mq5 p_thicks p_wides p_lengths p_grades p_count o_thicks o_wides o_lengths o_grades o_count s_cameOn s_told u_ordersOfPiece u_usedOrders h_orderOfPiece h_lastDay h_heldOrders m_gains m_best m_chosen m_pieceDuals m_orderDuals m_pieceCount m_orderCount m_pairs m_worthSum m_upToDate s_today s_cutOff s_agingOff s_saleAge y1a y6a N r5 hc) (cwV 2 hts (gV (w0 514 rfl) (w0 515 rfl) (w0 16 rfl) (w0 28 rfl) (w0 516 rfl)) rfl rfl rfl q_S_totalWorth ⟨Nat.le_of_ble_eq_true rfl, Nat.le_of_ble_eq_true rfl⟩) (ro_preV [0, 1, 2, 3, 4, 5, 6, 7, 8, 9, 10, 11, 12, 13, 14, 15, 16, 17, 18, 19, 20, 21, 22, 23] rfl hK hP hN 4 0 (R_S, F_S, 11) rfl rfl) rfl rfl hl.1 rfl (lv_room (Nat.le_of_ble_eq_true rfl)) d_S_bestSet_88 ⟨Nat.le_of_ble_eq_true rfl, Nat.le_of_ble_eq_true rfl⟩) (fun r9 hr9 => ?_)
                subst hr9
                refine lv_istore (lv' := [(9, .int r5), (8, .int 1), (7, .int r2), (0, .ref sq), (1, .int y1a), (2, .int y2a), (3, .int y3a), (4, .int y4a), (5, .int y5a), (6, .int y6a)]) hx hb d_S_bestSet_91 hl (by decide) rfl (fun ls hl => ?_)
                refine lv_iload hx hb d_S_bestSet_93 (lv_at hl 2 rfl) ?_
                refine lv_iload hx hb d_S_bestSet_95 (lv_at hl 7 rfl) ?_
                refine lv_icmp_gt (tgt := 107) hx hb d_S_bestSet_97 (by decide) (fun c9 => ?_) (fun c9 => ?_)
                · replace hm := if_t c9 hm
                  refine lv_iload hx hb d_S_bestSet_107 (lv_at hl 9 rfl) ?_
                  refine lv_istore_n (lv' := [(3, .int y6a), (9, .int r5), (8, .int 1), (7, .int r2), (0, .ref sq), (1, .int y1a), (2, .int y2a), (4, .int y4a), (5, .int y5a), (6, .int y6a)]) hx hb d_S_bestSet_109 rfl hl (by decide) rfl (fun ls hl => ?_)
                  refine lv_iload hx hb d_S_bestSet_110 (lv_at hl 3 rfl) ?_
                  refine lv_istore (lv' := [(4, .int r2), (3, .int y6a), (9, .int r5), (8, .int 1), (7, .int r2), (0, .ref sq), (1, .int y1a), (2, .int y2a), (5, .int y5a), (6, .int y6a)]) hx hb d_S_bestSet_112 hl (by decide) rfl (fun ls hl => ?_)
                  refine lv_iload hx hb d_S_bestSet_114 (lv_at hl 2 rfl) ?_
                  refine lv_istore (lv' := [(5, .int r5), (4, .int r2), (3, .int y6a), (9, .int r5), (8, .int 1), (7, .int r2), (0, .ref sq), (1, .int y1a), (2, .int y2a), (6, .int y6a)]) hx hb d_S_bestSet_116 hl (by decide) rfl (fun ls hl => ?_)
                  refine lv_iinc (v := (y6a + 1)) (lv' := [(6, .int (y6a + 1)), (5, .int r5), (4, .int r2), (3, .int y6a), (9, .int r5), (8, .int 1), (7, .int r2), (0, .ref sq), (1, .int y1a), (2, .int y2a)]) hx hb d_S_bestSet_118 hl (k := 9) rfl rfl (by decide) rfl (fun ls hl => ?_)
                  refine lv_goto (tgt := 17) hx hb d_S_bestSet_121 (by decide) ?_
                  have hl : lv_has ls 10 [(0, .ref sq), (1, .int y1a), (2, .int y2a), (3, .int y6a), (4, .int r2), (5, .int r5), (6, .int (y6a + 1))] := lv_sub hl [7, 8, 9, 3, 2, 1, 0] rfl
                  exact ih17 y1a y2a y6a r2 r5 (y6a + 1) ls hl hm
                · replace hm := if_f c9 hm
                  refine lv_iload hx hb d_S_bestSet_100 (lv_at hl 0 rfl) ?_
                  refine lv_iload hx hb d_S_bestSet_102 (lv_at hl 8 rfl) ?_
                  refine lv_icmp_le (tgt := 118) hx hb d_S_bestSet_104 (by decide) (fun c9 => ?_) (fun c9 => ?_)
                  · replace hm := if_t c9 hm
                    refine lv_iinc (v := (y6a + 1)) (lv' := [(6, .int (y6a + 1)), (9, .int r5), (8, .int 1), (7, .int r2), (0, .ref sq), (1, .int y1a), (2, .int y2a), (3, .int y3a), (4, .int y4a), (5, .int y5a)]) hx hb d_S_bestSet_118 hl (k := 9) rfl rfl (by decide) rfl (fun ls hl => ?_)
                    refine lv_goto (tgt := 17) hx hb d_S_bestSet_121 (by decide) ?_
                    have hl : lv_has ls 10 [(0, .ref sq), (1, .int y1a), (2, .int y2a), (3, .int y3a), (4, .int y4a), (5, .int y5a), (6, .int (y6a + 1))] := lv_sub hl [4, 5, 6, 7, 8, 9, 0] rfl
                    exact ih17 y1a y2a y3a y4a y5a (y6a + 1) ls hl hm
                  · replace hm := if_f c9 hm
                    refine lv_iload hx hb d_S_bestSet_107 (lv_at hl 9 rfl) ?_
                    refine lv_istore_n (lv' := [(3, .int y6a), (9, .int r5), (8, .int 1), (7, .int r2), (0, .ref sq), (1, .int y1a), (2, .int y2a), (4, .int y4a), (5, .int y5a), (6, .int y6a)]) hx hb d_S_bestSet_109 rfl hl (by decide) rfl (fun ls hl => ?_)
                    refine lv_iload hx hb d_S_bestSet_110 (lv_at hl 3 rfl) ?_
                    refine lv_istore (lv' := [(4, .int r2), (3, .int y6a), (9, .int r5), (8, .int 1), (7, .int r2), (0, .ref sq), (1, .int y1a), (2, .int y2a), (5, .int y5a), (6, .int y6a)]) hx hb d_S_bestSet_112 hl (by decide) rfl (fun ls hl => ?_)
                    refine lv_iload hx hb d_S_bestSet_114 (lv_at hl 2 rfl) ?_
                    refine lv_istore (lv' := [(5, .int r5), (4, .int r2), (3, .int y6a), (9, .int r5), (8, .int 1), (7, .int r2), (0, .ref sq), (1, .int y1a), (2, .int y2a), (6, .int y6a)]) hx hb d_S_bestSet_116 hl (by decide) rfl (fun ls hl => ?_)
                    refine lv_iinc (v := (y6a + 1)) (lv' := [(6, .int (y6a + 1)), (5, .int r5), (4, .int r2), (3, .int y6a), (9, .int r5), (8, .int 1), (7, .int r2), (0, .ref sq), (1, .int y1a), (2, .int y2a)]) hx hb d_S_bestSet_118 hl (k := 9) rfl rfl (by decide) rfl (fun ls hl => ?_)
                    refine lv_goto (tgt := 17) hx hb d_S_bestSet_121 (by decide) ?_
                    have hl : lv_has ls 10 [(0, .ref sq), (1, .int y1a), (2, .int y2a), (3, .int y6a), (4, .int r2), (5, .int r5), (6, .int (y6a + 1))] := lv_sub hl [7, 8, 9, 3, 2, 1, 0] rfl
                    exact ih17 y1a y2a y6a r2 r5 (y6a + 1) ls hl hm
  have hl : lv_has ls 10 [(0, .ref sq), (1, .int x1), (2, .int r1), (3, .int 0), (4, .int 0), (5, .int 0), (6, .int 1)] := lv_sub hl [5, 6, 4, 3, 2, 1, 0] rfl
  refine key17 _ (fun y1a y2a y3a y4a y5a y6a ls hl hm => ?_) N x1 r1 0 0 0 1 ls hl hm
  try dsimp only at hm
  refine lv_iload_n hx hb d_S_bestSet_124 rfl (lv_at hl 3 rfl) ?_
  cases hm
  exact W.iret hx hb hr (fun t ht hW => ⟨_, rfl, rfl, ht⟩) (fun _ h => nomatch h) d_S_bestSet_125

