/-! Own rows: words, taking a model's equation apart, and calls' starts. -/
def nw (U : State) : Prop := va_Nw (.methodLinkNest R_M 38 y_S_pairIndex "SurplusMatch") U
theorem nw.call {U : State} {g : JFrame} {mk : MethodId} {a : Array Value} (h : nw U) : nw (U.calling g mk a) := va_Nw.same rfl rfl h
theorem nw.warm {s U : State} (hW : s.WarmedH U.vm) (h : nw s) : nw U := va_Nw.warmM hW h
theorem W0g {w : Cond} (h : w ∈ W0) : (w.onTables && w.keeps) = true ∨ ∃ ty, w = .arrayClass ty := good_of_word (List.all_eq_true.mp W0_good w h)
theorem gN {c c' : Cond} (h5 : c' ∈ W0) : GoodIn (c :: W0) (c' :: W0) := by
  intro w hw
  have h : w ∈ W0 := by
    rcases List.mem_cons.mp hw with rfl | h
    · exact h5
    · exact h
  exact ⟨List.mem_cons_of_mem _ h, W0g h⟩
theorem gV {c c' : Cond} {own C : String} {idx : Nat} {y : MethodName} (h1 : Cond.methodLink own idx y ∈ W0) (h2 : Cond.instanceMethod y ∈ W0) (h3 : Cond.selects C y y ∈ W0) (h4 : Cond.initialized C ∈ W0) (h5 : c' ∈ W0) : GoodIn (c :: W0) (wsV own idx C y (c' :: W0)) := by
  intro w hw
  rcases List.mem_append.mp hw with hw | hw
  · have h : w ∈ W0 := by
      rcases List.mem_cons.mp hw with rfl | hw
      · exact h1
      rcases List.mem_cons.mp hw with rfl | hw
      · exact h2
      rcases List.mem_cons.mp hw with rfl | hw
      · exact h3
      rcases List.mem_cons.mp hw with rfl | hw
      · exact h4
      cases hw
    exact ⟨List.mem_cons_of_mem _ h, W0g h⟩
  · exact gN h5 w hw
theorem gS {c c' : Cond} {own : String} {idx : Nat} {y : MethodName} (h1 : Cond.methodLink own idx y ∈ W0) (h2 : Cond.static y ∈ W0) (h4 : Cond.initialized own ∈ W0) (h5 : c' ∈ W0) : GoodIn (c :: W0) (wsS own idx y (c' :: W0)) := by
  intro w hw
  rcases List.mem_append.mp hw with hw | hw
  · have h : w ∈ W0 := by
      rcases List.mem_cons.mp hw with rfl | hw
      · exact h1
      rcases List.mem_cons.mp hw with rfl | hw
      · exact h2
      rcases List.mem_cons.mp hw with rfl | hw
      · exact h4
      cases hw
    exact ⟨List.mem_cons_of_mem _ h, W0g h⟩
  · exact gN h5 w hw
theorem gT {c c' : Cond} {own : String} {idx : Nat} {y : MethodName} (h1 : Cond.methodLink own idx y ∈ W0) (h2 : Cond.static y ∈ W0) (h4 : Cond.initialized y.cls ∈ W0) (h5 : c' ∈ W0) : GoodIn (c :: W0) (va_wsS own idx y (c' :: W0)) := by
  intro w hw
  rcases List.mem_append.mp hw with hw | hw
  · have h : w ∈ W0 := by
      rcases List.mem_cons.mp hw with rfl | hw
      · exact h1
      rcases List.mem_cons.mp hw with rfl | hw
      · exact h2
      rcases List.mem_cons.mp hw with rfl | hw
      · exact h4
      cases hw
    exact ⟨List.mem_cons_of_mem _ h, W0g h⟩
  · exact gN h5 w hw
theorem i_B : ∀ w ∈ w_B, w ∈ W0 := by decide +kernel
theorem i_U : ∀ w ∈ w_U, w ∈ W0 := by decide +kernel
theorem i_H : ∀ w ∈ w_H, w ∈ W0 := by decide +kernel
theorem i_M : ∀ w ∈ w_M, w ∈ W0 := by decide +kernel
theorem i_S : ∀ w ∈ w_S, w ∈ W0 := by decide +kernel
theorem i_D : ∀ w ∈ w_D, w ∈ W0 := by decide +kernel
theorem gd {α : Type} {c : Prop} [Decidable c] {x : Option α} {r : α} (h : (if c then none else x) = some r) : ¬ c ∧ x = some r := by
  by_cases hc : c
  · rw [if_pos hc] at h; cases h
  · rw [if_neg hc] at h; exact ⟨hc, h⟩
theorem bd {α β : Type} {o : Option α} {f : α → Option β} {r : β} (h : o.bind f = some r) : ∃ a, o = some a ∧ f a = some r := by
  cases o with
  | none => cases h
  | some a => exact ⟨a, rfl, h⟩
theorem if_t {α : Type} {c : Prop} [Decidable c] {x y : Option α} {r : α} (hc : c) (h : (if c then x else y) = some r) : x = some r := by
  rw [if_pos hc] at h; exact h
theorem if_f {α : Type} {c : Prop} [Decidable c] {x y : Option α} {r : α} (hc : ¬ c) (h : (if c then x else y) = some r) : y = some r := by
  rw [if_neg hc] at h; exact h
theorem cp5 {a b c : Prop} {m0 x0 m1 x1 : Nat} (h : ¬ (a ∨ b ∨ c ∨ m0 < x0 ∨ m1 < x1)) : ¬ a ∧ ¬ b ∧ ¬ c ∧ x0 ≤ m0 ∧ x1 ≤ m1 :=
  ⟨fun z => h (Or.inl z), fun z => h (Or.inr (Or.inl z)), fun z => h (Or.inr (Or.inr (Or.inl z))), Nat.not_lt.mp fun z => h (Or.inr (Or.inr (Or.inr (Or.inl z)))), Nat.not_lt.mp fun z => h (Or.inr (Or.inr (Or.inr (Or.inr z))))⟩
theorem ro_preV {s : State} {H : Heap} {D : va_G} {cl : List vw_C} {tys : List (ClassId × FieldType)} {ws ws' : va_W} {b : Nat} {As : List Value} (is : List Nat) (hs : is.filterMap (fun i => ws[i]?) = ws') (hK : va_K D cl tys s) (hP : va_P D cl ws H) (hN : nw s) (ci q0 : Nat) (q : vw_C) {fs : List Value} (hc : cl[ci]? = some q) (he : ws'[q0]? = some (b, .inr (ci, fs))) : PreV s H q.1 b (va_Pc (.ref b :: As) (fun U => va_P D cl ws' U.heap ∧ va_K D cl tys U ∧ nw U)) As :=
  have hP' := hP.sub is hs
  ⟨fun a U g mk h => ⟨h.1, h.2.1, va_K.moved (u := U) (U := U.calling g mk a) (Vm.Alike.refl U.vm) h.2.2.1, nw.call h.2.2.2⟩, va_recv hK hP' hc he, fun U hU hW => ⟨rfl, by rw [hU]; exact hP', va_K.moved hW.alike hK, nw.warm hW hN⟩⟩
theorem ro_preS {s : State} {H : Heap} {D : va_G} {cl : List vw_C} {tys : List (ClassId × FieldType)} {ws ws' : va_W} {As : List Value} (is : List Nat) (hs : is.filterMap (fun i => ws[i]?) = ws') (hK : va_K D cl tys s) (hP : va_P D cl ws H) (hN : nw s) : PreS s H (va_Pc As (fun U => va_P D cl ws' U.heap ∧ va_K D cl tys U ∧ nw U)) As :=
  have hP' := hP.sub is hs
  ⟨fun a U g mk h => ⟨h.1, h.2.1, va_K.moved (u := U) (U := U.calling g mk a) (Vm.Alike.refl U.vm) h.2.2.1, nw.call h.2.2.2⟩, fun U hU hW => ⟨rfl, by rw [hU]; exact hP', va_K.moved hW.alike hK, nw.warm hW hN⟩⟩
theorem ro_pre0 {s : State} {H : Heap} {As : List Value} : PreS s H (va_Pc As (fun _ => True)) As :=
  ⟨fun _ _ _ _ h => ⟨h.1, trivial⟩, fun _ _ _ => ⟨rfl, trivial⟩⟩
theorem wr_preV {s : State} {H : Heap} {D : va_G} {cl : List vw_C} {tys : List (ClassId × FieldType)} {A : Nat → Prop} {wc : va_W} {b : Nat} {As : List Value} (hK : va_K D cl tys s) (hP : va_P D cl wc H) (hD : va_D A wc) (hN : nw s) (ci q0 : Nat) (q : vw_C) {fs : List Value} (hc : cl[ci]? = some q) (he : wc[q0]? = some (b, .inr (ci, fs))) : PreV s H q.1 b (va_Pc (.ref b :: As) (fun U => U.heap.size = H.size ∧ va_P D cl wc U.heap ∧ va_K D cl tys U ∧ va_D (fun _ => True) wc ∧ nw U)) As :=
  ⟨fun a U g mk h => ⟨h.1, h.2.1, h.2.2.1, va_K.moved (u := U) (U := U.calling g mk a) (Vm.Alike.refl U.vm) h.2.2.2.1, h.2.2.2.2.1, nw.call h.2.2.2.2.2⟩, va_recv hK hP hc he, fun U hU hW => ⟨rfl, by rw [hU], by rw [hU]; exact hP, va_K.moved hW.alike hK, hD.weaken (fun _ _ _ _ => trivial), nw.warm hW hN⟩⟩
theorem wr_preS {s : State} {H : Heap} {D : va_G} {cl : List vw_C} {tys : List (ClassId × FieldType)} {A : Nat → Prop} {wc : va_W} {As : List Value} (hK : va_K D cl tys s) (hP : va_P D cl wc H) (hD : va_D A wc) (hN : nw s) : PreS s H (va_Pc As (fun U => U.heap.size = H.size ∧ va_P D cl wc U.heap ∧ va_K D cl tys U ∧ va_D (fun _ => True) wc ∧ nw U)) As :=
  ⟨fun a U g mk h => ⟨h.1, h.2.1, h.2.2.1, va_K.moved (u := U) (U := U.calling g mk a) (Vm.Alike.refl U.vm) h.2.2.2.1, h.2.2.2.2.1, nw.call h.2.2.2.2.2⟩, fun U hU hW => ⟨rfl, by rw [hU], by rw [hU]; exact hP, va_K.moved hW.alike hK, hD.weaken (fun _ _ _ _ => trivial), nw.warm hW hN⟩⟩
