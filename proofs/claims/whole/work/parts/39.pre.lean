/-! Own rows: a caught result; the start of a call of the law's helpers. -/
def tc {α β : Type} (f : Nat → Option β) (g : α → Option β) : Nat ⊕ α → Option β
  | .inl k => f k
  | .inr a => g a
theorem hx_preS {s : State} {H : Heap} {D : va_G} {cl : List vw_C} {tys : List (ClassId × FieldType)} {A : Nat → Prop} {wc : va_W} {As : List Value} (hK : va_K D cl tys s) (hP : va_P D cl wc H) (hD : va_D A wc) (hN : nw s) (hE : xE xTx s H) (hNc : xNc s) : PreS s H (va_Pc As (fun U => U.heap.size = H.size ∧ va_P D cl wc U.heap ∧ va_K D cl tys U ∧ va_D (fun _ => True) wc ∧ nw U ∧ xE xTx U U.heap ∧ xNc U)) As :=
  ⟨fun a U g mk h => ⟨h.1, h.2.1, h.2.2.1, va_K.moved (u := U) (U := U.calling g mk a) (Vm.Alike.refl U.vm) h.2.2.2.1, h.2.2.2.2.1, nw.call h.2.2.2.2.2.1, xE.call h.2.2.2.2.2.2.1, xNc.moved (u := U) (U := U.calling g mk a) (Vm.Alike.refl U.vm) h.2.2.2.2.2.2.2⟩, fun U hU hW => ⟨rfl, by rw [hU], by rw [hU]; exact hP, va_K.moved hW.alike hK, hD.weaken (fun _ _ _ _ => trivial), nw.warm hW hN, by rw [hU]; exact hE.warm hW, hNc.moved hW.alike⟩⟩
