/-! Own rows: all arrays of a kind have one class. -/
theorem cA_eq {D : va_G} {cl : List vw_C} {tys : List (ClassId × FieldType)} {s : State} {c1 c2 : ClassId} {ty : FieldType} (hK : va_K D cl tys s) (i j : Nat) (hi : tys[i]? = some (c1, ty)) (hj : tys[j]? = some (c2, ty)) (hr : ∀ k : ClassId, va_RA s k ty ↔ s.vm.findClass ("[" ++ ty.toString) = some k) : c1 = c2 :=
  Option.some.inj (((hr c1).mp (hK.2 i _ hi).2).symm.trans ((hr c2).mp (hK.2 j _ hj).2))
