theorem d_S_isWithin_0 : decode b_S_isWithin 0 = .ok (.iload_n 0, 1) := by decide +kernel
theorem d_S_isWithin_1 : decode b_S_isWithin 1 = .ok (.iload_n 1, 1) := by decide +kernel
theorem d_S_isWithin_2 : decode b_S_isWithin 2 = .ok (.if_icmp .lt 12, 3) := by decide +kernel
theorem d_S_isWithin_5 : decode b_S_isWithin 5 = .ok (.iload_n 0, 1) := by decide +kernel
theorem d_S_isWithin_6 : decode b_S_isWithin 6 = .ok (.iload_n 2, 1) := by decide +kernel
theorem d_S_isWithin_7 : decode b_S_isWithin 7 = .ok (.if_icmp .gt 7, 3) := by decide +kernel
theorem d_S_isWithin_10 : decode b_S_isWithin 10 = .ok (.iconst 1, 1) := by decide +kernel
theorem d_S_isWithin_11 : decode b_S_isWithin 11 = .ok (.goto 4, 3) := by decide +kernel
theorem d_S_isWithin_14 : decode b_S_isWithin 14 = .ok (.iconst 0, 1) := by decide +kernel
theorem d_S_isWithin_15 : decode b_S_isWithin 15 = .ok (.ireturn, 1) := by decide +kernel
theorem d_S_pairIndex_0 : decode b_S_pairIndex 0 = .ok (.iload_n 0, 1) := by decide +kernel
theorem d_S_pairIndex_1 : decode b_S_pairIndex 1 = .ok (.bipush 10, 2) := by decide +kernel
theorem d_S_pairIndex_3 : decode b_S_pairIndex 3 = .ok (.imul, 1) := by decide +kernel
theorem d_S_pairIndex_4 : decode b_S_pairIndex 4 = .ok (.iload_n 1, 1) := by decide +kernel
theorem d_S_pairIndex_5 : decode b_S_pairIndex 5 = .ok (.iadd, 1) := by decide +kernel
theorem d_S_pairIndex_6 : decode b_S_pairIndex 6 = .ok (.ireturn, 1) := by decide +kernel
def w_S_isWithin : List Cond := .code y_S_isWithin b_S_isWithin 3 (some .boolean) :: W0
theorem q_S_isWithin : y_S_isWithin.cls = R_S ∧ y_S_isWithin.cls ≠ "java/lang/invoke/MethodHandle" ∧ y_S_isWithin.cls ≠ "java/lang/invoke/VarHandle" ∧ (parseMethodDescriptor y_S_isWithin.desc).map (fun d => d.parameters.length) = some 3 := by decide +kernel
def m_S_isWithin (x0 : Int32) (x1 : Int32) (x2 : Int32) : Option Int32 :=
  (if x0 < x1 then
  some 0
 else
  (if x2 < x0 then
    some 0
   else
    some 1))
set_option maxHeartbeats 4000000 in
set_option maxRecDepth 100000 in
theorem c_S_isWithin (l : Launch) (dC : Nat → ClassId) (dI : Nat → Nat → Nat) (cI : ClassId)  (x0 : Int32) (x1 : Int32) (x2 : Int32) (N : Nat) (res : Int32) (hm : m_S_isWithin x0 x1 x2 = some res) : Met l y_S_isWithin w_S_isWithin ({ frames := 0, cells := 0, slots := 0, locals := 0 } : Room) (va_Pc [.int x0, .int x1, .int x2] (fun _ => True)) (vp_Si (fun x => res = x)) 0 0 (fun _ => False) := by
  unfold m_S_isWithin at hm
  refine Met.ofW (cc := b_S_isWithin) (maxL := 3) (ret := (some .boolean)) (by decide) rfl ?_
  intro p e s m args below meth c s₁ B hml hv
  obtain ⟨rfl, -⟩ := hv
  have hx := B.exec
  have hb := B.bytes
  have hr := B.returns
  have hts := atoms_spec (ws := w_S_isWithin) B.pre
  have hown : s.vm.findClass R_S = some m.cls := findClass_of_methodNamed B.named
  have hlocks := B.notSynchronized
  have hl := lv_entry ([.int x0, .int x1, .int x2]) (n := 3) (Nat.le_of_ble_eq_true rfl)
  rw [lg_entry_eq]
  generalize (lg_sl ([.int x0, .int x1, .int x2]) ++ List.replicate (3 - (lg_sl ([.int x0, .int x1, .int x2])).length) Slot.unset).toArray = ls at hl ⊢
  have hl : lv_has ls 3 [(0, .int x0), (1, .int x1), (2, .int x2)] := hl
  refine lv_iload_n hx hb d_S_isWithin_0 rfl (lv_at hl 0 rfl) ?_
  refine lv_iload_n hx hb d_S_isWithin_1 rfl (lv_at hl 1 rfl) ?_
  refine lv_icmp_lt (tgt := 14) hx hb d_S_isWithin_2 (by decide) (fun c9 => ?_) (fun c9 => ?_)
  · replace hm := if_t c9 hm
    refine lv_iconst (v := 0) hx hb d_S_isWithin_14 (by decide) ?_
    cases hm
    exact W.zret hx hb hr (by decide) (fun t ht hW => ⟨_, rfl, rfl, ht⟩) (fun _ h => nomatch h) d_S_isWithin_15
  · replace hm := if_f c9 hm
    refine lv_iload_n hx hb d_S_isWithin_5 rfl (lv_at hl 0 rfl) ?_
    refine lv_iload_n hx hb d_S_isWithin_6 rfl (lv_at hl 2 rfl) ?_
    refine lv_icmp_gt (tgt := 14) hx hb d_S_isWithin_7 (by decide) (fun c9 => ?_) (fun c9 => ?_)
    · replace hm := if_t c9 hm
      refine lv_iconst (v := 0) hx hb d_S_isWithin_14 (by decide) ?_
      cases hm
      exact W.zret hx hb hr (by decide) (fun t ht hW => ⟨_, rfl, rfl, ht⟩) (fun _ h => nomatch h) d_S_isWithin_15
    · replace hm := if_f c9 hm
      refine lv_iconst (v := 1) hx hb d_S_isWithin_10 (by decide) ?_
      refine lv_goto (tgt := 15) hx hb d_S_isWithin_11 (by decide) ?_
      cases hm
      exact W.zret hx hb hr (by decide) (fun t ht hW => ⟨_, rfl, rfl, ht⟩) (fun _ h => nomatch h) d_S_isWithin_15

def w_S_pairIndex : List Cond := .code y_S_pairIndex b_S_pairIndex 2 (some .int) :: W0
theorem q_S_pairIndex : y_S_pairIndex.cls = R_S ∧ y_S_pairIndex.cls ≠ "java/lang/invoke/MethodHandle" ∧ y_S_pairIndex.cls ≠ "java/lang/invoke/VarHandle" ∧ (parseMethodDescriptor y_S_pairIndex.desc).map (fun d => d.parameters.length) = some 2 := by decide +kernel
def m_S_pairIndex (x0 : Int32) (x1 : Int32) : Option Int32 :=
  some ((x0 * 10) + x1)
set_option maxHeartbeats 4000000 in
set_option maxRecDepth 100000 in
theorem c_S_pairIndex (l : Launch) (dC : Nat → ClassId) (dI : Nat → Nat → Nat) (cI : ClassId)  (x0 : Int32) (x1 : Int32) (N : Nat) (res : Int32) (hm : m_S_pairIndex x0 x1 = some res) : Met l y_S_pairIndex w_S_pairIndex ({ frames := 0, cells := 0, slots := 0, locals := 0 } : Room) (va_Pc [.int x0, .int x1] (fun _ => True)) (vp_Si (fun x => res = x)) 0 0 (fun _ => False) := by
  unfold m_S_pairIndex at hm
  refine Met.ofW (cc := b_S_pairIndex) (maxL := 2) (ret := (some .int)) (by decide) rfl ?_
  intro p e s m args below meth c s₁ B hml hv
  obtain ⟨rfl, -⟩ := hv
  have hx := B.exec
  have hb := B.bytes
  have hr := B.returns
  have hts := atoms_spec (ws := w_S_pairIndex) B.pre
  have hown : s.vm.findClass R_S = some m.cls := findClass_of_methodNamed B.named
  have hlocks := B.notSynchronized
  have hl := lv_entry ([.int x0, .int x1]) (n := 2) (Nat.le_of_ble_eq_true rfl)
  rw [lg_entry_eq]
  generalize (lg_sl ([.int x0, .int x1]) ++ List.replicate (2 - (lg_sl ([.int x0, .int x1])).length) Slot.unset).toArray = ls at hl ⊢
  have hl : lv_has ls 2 [(0, .int x0), (1, .int x1)] := hl
  refine lv_iload_n hx hb d_S_pairIndex_0 rfl (lv_at hl 0 rfl) ?_
  refine lv_bipush (v := 10) hx hb d_S_pairIndex_1 (by decide) ?_
  refine lv_imul hx hb d_S_pairIndex_3 ?_
  refine lv_iload_n hx hb d_S_pairIndex_4 rfl (lv_at hl 1 rfl) ?_
  refine lv_iadd hx hb d_S_pairIndex_5 ?_
  cases hm
  exact W.iret hx hb hr (fun t ht hW => ⟨_, rfl, rfl, ht⟩) (fun _ h => nomatch h) d_S_pairIndex_6

