/-! Own rows: calls of methods that throw. -/
def xn (k : Nat) : String := xNames.getD k ""
section XR
variable {p : Program} {l : Launch} {e : Env} {R : Room} {s : State} {m : MethodId} {args : Array Value} {below : List Frame} {meth : Method} {c : Code} {H : Heap} {locs : List Loc} {cells slots : Nat} {Q : State → Prop}
variable {y : MethodName} {bytes cc : ByteArray} {maxL nL n index : Nat} {ret : Option FieldType} {ws : List Cond} {rm : Room} {Pc : Array Value → State → Prop} {E : String} {Ts : List Cond} {own C : String} {b : Addr} {As rest : List Value} {g : JFrame}
theorem xt_runV (S : CallFix p m c cc nL s args Ts own) (hM : xt_Met l y ws rm Pc E) (cw : CallW R s args own C index y bytes maxL ret ws rm 1 6 n) (hp : PreV s H C b Pc As)
    (hg : g.method = m) (hn : As.length = n) (hsize : g.locals.size = nL) (hstack : g.stack = As.reverse ++ .ref b :: rest) (hW : 2 * g.monitorRoom + (rest.map fun v => v.category).sum ≤ 8) (hdg : decode cc g.pc = .ok (.invokevirtual index, 3)) (hf : cells + 1 ≤ R.cells ∧ slots + 6 ≤ R.slots)
    (kx : ∀ (q : Addr) (ce : Cell) (H1 : Heap), H1[q]? = some ce → ce.vm = .none → s.vm.findClass E = some ce.cls → H.size ≤ H1.size → (∀ q9 : Nat, q9 < H.size → H1[q9]? = H[q9]?) → xt_W p l e R s m args below meth c H1 locs (cells + 1) (slots + 6) Q { g with stack := rest } q) :
    W p l e R s m args below meth c H locs cells slots Q g := by
  obtain ⟨⟨hrc, hrs, hfr, hlo, hws, hcw, hcode, hini, hy, hlen, hlink⟩, hinst, hsel⟩ := cw
  obtain ⟨hx, hb, hml, hown, -⟩ := S
  obtain ⟨hblind, ⟨cellB, hcB, hoB, hclB⟩, hPc⟩ := hp
  intro T hT X
  subst hb
  obtain ⟨mk, methM, hnamed, hmethM, hstM, habM⟩ := Cond.instanceMethod_spec hinst
  obtain ⟨methM', cM, hmethM', -, -, -, -, -, -, hsigM⟩ := Cond.code_spec hnamed hcode
  cases hmethM.symm.trans hmethM'
  obtain ⟨c2, r2, m2, q1, q2, q3, q4, kP, hkP, hkPi⟩ := Cond.selects_spec hsel
  cases hclB.symm.trans q1
  cases (State.methodFound?_of_named hnamed hy).symm.trans q2
  cases hnamed.symm.trans q3
  have hselP : selectMethod e.platform s.vm cellB.cls mk = .method mk := by rw [Launch.admits_selectMethod X.admits]; exact q4
  obtain ⟨vm₁, X₁, hstep₁⟩ := X.invokevirtual hx hown hlink hnamed hmethM hstM hkP hkPi hy (a := b) (cell := cellB) (by rw [hT]; exact hcB)
    (fun z h => by rw [h] at hoB; cases hoB) hselP hmethM habM hkP hkPi (g := g) hg (argsL := As) (rest := rest) (hn.trans (hlen _ hsigM)) hstack hdg
  obtain ⟨q, U', ce, X', hce, hcv, hcl, f1, f2, hsteps⟩ := xt_back (U := T.setVm vm₁) (g := { g with stack := rest }) (ig := .invokevirtual index) (mk := mk) (a := (Value.ref b :: As).toArray) (bytes := bytes) (maxL := maxL) (ret := ret) hM hfr hlo hws hcw
    (fun a' U hW => word_at hW (Or.inl (by first | rfl | simp [Cond.onTables, Cond.keeps, Cond.steady])) hini) X₁ hg (hsize.trans hml.symm) hdg hW (X₁.named hnamed) (by rw [hrc]; exact hf.1) (by rw [hrs]; exact hf.2) (hblind _ _ _ _ (hPc (T.setVm vm₁) hT X₁.warmed))
  have hcl' : s.vm.findClass E = some ce.cls := by
    rw [X₁.warmed.alike.findClass] at hcl
    exact hcl
  obtain ⟨t, a1, b1⟩ := kx q ce U'.heap hce hcv hcl' (by rw [← hT]; exact f1) (fun q9 h9 => by rw [← hT] at h9 ⊢; exact f2 q9 h9) U' rfl X'
  exact ⟨t, hstep₁ _ fun acts => by rw [doInvoke_state]; exact hsteps.trans a1, b1⟩
theorem xt_runS (S : CallFix p m c cc nL s args Ts own) (hM : xt_Met l y ws rm Pc E) (cw : CallB R s args own index y bytes maxL ret ws rm 1 6 n ∧ (Cond.static y).before args s = true) (hp : PreS s H Pc As)
    (hg : g.method = m) (hn : As.length = n) (hsize : g.locals.size = nL) (hstack : g.stack = As.reverse ++ rest) (hW : 2 * g.monitorRoom + (rest.map fun v => v.category).sum ≤ 8) (hdg : decode cc g.pc = .ok (.invokestatic index, 3)) (hf : cells + 1 ≤ R.cells ∧ slots + 6 ≤ R.slots)
    (kx : ∀ (q : Addr) (ce : Cell) (H1 : Heap), H1[q]? = some ce → ce.vm = .none → s.vm.findClass E = some ce.cls → H.size ≤ H1.size → (∀ q9 : Nat, q9 < H.size → H1[q9]? = H[q9]?) → xt_W p l e R s m args below meth c H1 locs (cells + 1) (slots + 6) Q { g with stack := rest } q) :
    W p l e R s m args below meth c H locs cells slots Q g := by
  obtain ⟨⟨hrc, hrs, hfr, hlo, hws, hcw, hcode, hini, hy, hlen, hlink⟩, hstat⟩ := cw
  obtain ⟨hx, hb, hml, hown, -⟩ := S
  obtain ⟨hblind, hPc⟩ := hp
  intro T hT X
  subst hb
  obtain ⟨mk, hnamed⟩ := Cond.code_named hcode
  obtain ⟨methM, cM, hmethM, -, -, -, -, -, -, hsigM⟩ := Cond.code_spec hnamed hcode
  have hstatic : methM.isStatic = true := Cond.static_spec hnamed hmethM hstat
  obtain ⟨kP, hkP, -⟩ := className_of_methodNamed hnamed
  have hinitP : kP.init = .initialized := Cond.initialized_spec (findClass_of_methodNamed hnamed) hkP hini
  obtain ⟨vm₁, X₁, hstep₁⟩ := X.invokestatic hx hown hlink hnamed hmethM hstatic hkP hinitP hy (g := g) hg (argsL := As) (rest := rest) (hn.trans (hlen _ hsigM)) hstack hdg
  obtain ⟨q, U', ce, X', hce, hcv, hcl, f1, f2, hsteps⟩ := xt_back (U := T.setVm vm₁) (g := { g with stack := rest }) (ig := .invokestatic index) (mk := mk) (a := As.toArray) (bytes := bytes) (maxL := maxL) (ret := ret) hM hfr hlo hws hcw
    (fun a' U hW => word_at hW (Or.inl (by first | rfl | simp [Cond.onTables, Cond.keeps, Cond.steady])) hini) X₁ hg (hsize.trans hml.symm) hdg hW (X₁.named hnamed) (by rw [hrc]; exact hf.1) (by rw [hrs]; exact hf.2) (hblind _ _ _ _ (hPc (T.setVm vm₁) hT X₁.warmed))
  have hcl' : s.vm.findClass E = some ce.cls := by
    rw [X₁.warmed.alike.findClass] at hcl
    exact hcl
  obtain ⟨t, a1, b1⟩ := kx q ce U'.heap hce hcv hcl' (by rw [← hT]; exact f1) (fun q9 h9 => by rw [← hT] at h9 ⊢; exact f2 q9 h9) U' rfl X'
  exact ⟨t, hstep₁ _ fun acts => by rw [doInvoke_state]; exact hsteps.trans a1, b1⟩
end XR
def xTx : List (Nat × String) := [(76, "the worth is not 0 .. 1,000,000"), (88, "the cut is not 0 .. 1,000"), (90, "the aging is not 0 .. 1,000"), (92, "the days up to the sale are not 0 .. 9,999"), (132, "no such side"), (139, "no such piece or order"), (147, "no run since the last piece or order came"), (166, "the piece is used or reserved"), (185, "the piece or the order is used"), (190, "the piece or the order is reserved"), (192, "the day is past, or none"), (201, "the piece is not used"), (209, "the days are not 1 .. 1,000"), (211, "beyond day 9,999"), (216, "a size is not 1 .. 1,000"), (218, "the grade is not 0 .. 7"), (225, "there are 10"), (228, "no such piece"), (230, "no such order"), (232, "below 0"), (234, "the piece does not fit the order")]
theorem at_0 : ∀ w ∈ Bundle.ownAtoms R_S 134 "java/lang/IndexOutOfBoundsException" xnm, w ∈ W0 ∨ w ∈ XW := by decide +kernel
theorem hat_0 {s : State} {args : Array Value} {c : Cond} (hts : ∀ w ∈ c :: W0, w.before args s = true) (hE : xE xTx s s.heap) : ∀ w ∈ Bundle.ownAtoms R_S 134 "java/lang/IndexOutOfBoundsException" xnm, w.before args s = true := fun w hw => (at_0 w hw).elim (fun h => hts w (List.mem_cons_of_mem _ h)) (hE.words w)
theorem at_1 : ∀ w ∈ Bundle.ownAtoms R_S 149 "java/lang/IllegalStateException" xnm, w ∈ W0 ∨ w ∈ XW := by decide +kernel
theorem hat_1 {s : State} {args : Array Value} {c : Cond} (hts : ∀ w ∈ c :: W0, w.before args s = true) (hE : xE xTx s s.heap) : ∀ w ∈ Bundle.ownAtoms R_S 149 "java/lang/IllegalStateException" xnm, w.before args s = true := fun w hw => (at_1 w hw).elim (fun h => hts w (List.mem_cons_of_mem _ h)) (hE.words w)
theorem at_2 : ∀ w ∈ Bundle.ownAtoms R_S 78 "java/lang/IllegalArgumentException" xnm, w ∈ W0 ∨ w ∈ XW := by decide +kernel
theorem hat_2 {s : State} {args : Array Value} {c : Cond} (hts : ∀ w ∈ c :: W0, w.before args s = true) (hE : xE xTx s s.heap) : ∀ w ∈ Bundle.ownAtoms R_S 78 "java/lang/IllegalArgumentException" xnm, w.before args s = true := fun w hw => (at_2 w hw).elim (fun h => hts w (List.mem_cons_of_mem _ h)) (hE.words w)
theorem at_3 : ∀ w ∈ Bundle.ownAtoms R_S 227 "java/lang/UnsupportedOperationException" xnm, w ∈ W0 ∨ w ∈ XW := by decide +kernel
theorem hat_3 {s : State} {args : Array Value} {c : Cond} (hts : ∀ w ∈ c :: W0, w.before args s = true) (hE : xE xTx s s.heap) : ∀ w ∈ Bundle.ownAtoms R_S 227 "java/lang/UnsupportedOperationException" xnm, w.before args s = true := fun w hw => (at_3 w hw).elim (fun h => hts w (List.mem_cons_of_mem _ h)) (hE.words w)
theorem xnm_fit : ∀ n ∈ xnm, Bundle.fit n = true := by decide +kernel
