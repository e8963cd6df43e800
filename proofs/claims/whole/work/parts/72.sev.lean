/-! Own rows: net worths as numbers; several: what is common to both sides. -/
def ntF (pw pl ow ol : Nat → Int32) (wf cf : Nat → Nat) (td ct ag p o : Nat) : Nat := wf (10 * p + o) - (ct * sdN pw pl ow ol p o + ag * (td - cf p))
theorem nt_S {np td ct ag : Nat} {cf wf : Nat → Nat} {pw pl ow ol cm dcm tl dw : Nat → Int32} {p o : Nat} (hnp : np ≤ 10) (hC : I_C np td cf cm dcm) (hW : I_W wf tl dw) (h1 : td ≤ 9999) (h2 : ct ≤ 1000) (h3 : ag ≤ 1000) (hp : p < np) (ho : o < 10) : m_S_worthToday pw pl ow ol cm tl (nI td) (nI ct) (nI ag) (nI p) (nI o) = some (nI (ntF pw pl ow ol wf cf td ct ag p o)) := by
  obtain ⟨a1, a2, a3⟩ := hC.1 p hp
  obtain ⟨b1, b2, b3⟩ := hW (10 * p + o) (by omega)
  rw [e_worth (by omega) ho, e_netN b1 b3 a1 a3 h1 h2 h3]
  rfl
theorem nt_D {np no td ct ag : Nat} {cf wf : Nat → Nat} {c dc c' dc' : Int32} {t w l g d t' w' l' g' d' cm dcm tl dw : Nat → Int32} {p o : Nat} (hB : I_B np c dc t w l g d) (hB' : I_B no c' dc' t' w' l' g' d') (hC : I_C np td cf cm dcm) (hW : I_W wf tl dw) (h1 : td ≤ 9999) (h2 : ct ≤ 1000) (h3 : ag ≤ 1000) (hp : p < np) (ho : o < no) : m_D_netOf (nI td) (nI ct) (nI ag) d d' dcm dw (nI p) (nI o) = some (nI (ntF w l w' l' wf cf td ct ag p o)) := by
  have hnp := hB.1
  have hno := hB'.1
  obtain ⟨a1, a2, a3⟩ := hC.1 p hp
  obtain ⟨b1, b2, b3⟩ := hW (10 * p + o) (by omega)
  rw [e_netOf (cm := cm) (tl := tl) hB hB' hp ho (by rw [a1, a2]) (by rw [b1, b2]), e_netN b1 b3 a1 a3 h1 h2 h3]
  rfl
theorem nt_bd {td ct ag : Nat} {cf wf : Nat → Nat} {pw pl ow ol tl dw : Nat → Int32} {p o : Nat} (hW : I_W wf tl dw) (hp : p < 10) (ho : o < 10) : ntF pw pl ow ol wf cf td ct ag p o ≤ 1000000 := by
  obtain ⟨b1, b2, b3⟩ := hW (10 * p + o) (by omega)
  unfold ntF
  omega
theorem sm_0 (f : Nat → Nat) (k : Nat) : sm 0 f k = 0 := by
  induction k with
  | zero => rfl
  | succ k ih =>
    unfold sm
    rw [ih, Nat.zero_testBit]
    rfl
theorem sm_s (s : Nat) (f : Nat → Nat) (k : Nat) : sm s f (k + 1) = sm s f k + (if s.testBit k = true then f k else 0) := rfl
theorem sm_bd {s B : Nat} {f : Nat → Nat} (k : Nat) (h : ∀ o, o < k → f o ≤ B) : sm s f k ≤ k * B := by
  induction k with
  | zero => exact Nat.zero_le _
  | succ k ih =>
    have := ih (fun o ho => h o (by omega))
    have h1 := h k (by omega)
    have e : (k + 1) * B = k * B + B := Nat.succ_mul k B
    rw [sm_s]
    split <;> omega
theorem sm_ext {s no : Nat} {f : Nat → Nat} (hs : s < 2 ^ no) (m : Nat) : sm s f (no + m) = sm s f no := by
  induction m with
  | zero => rfl
  | succ m ih =>
    have : s.testBit (no + m) = false := Nat.testBit_lt_two_pow (Nat.lt_of_lt_of_le hs (Nat.pow_le_pow_right (by decide) (by omega)))
    show sm s f (no + m + 1) = _
    rw [sm_s, ih, this]
    rfl
theorem q_sub (s t : Nat) : (s ^^^ (s &&& t) = 0) ↔ ∀ j, s.testBit j = true → t.testBit j = true := by
  constructor
  · intro h j hj
    have := congrArg (fun x => x.testBit j) h
    simpa [Nat.testBit_xor, Nat.testBit_and, hj] using this
  · intro h
    refine Nat.eq_of_testBit_eq (fun i => ?_)
    rw [Nat.testBit_xor, Nat.testBit_and, Nat.zero_testBit]
    cases hs : s.testBit i
    · rfl
    · rw [h i hs]; rfl
theorem q_sle {s t : Nat} (h : s ^^^ (s &&& t) = 0) : s ≤ t := by
  have h1 := (q_sub s t).mp h
  have : s &&& t = s := Nat.eq_of_testBit_eq (fun i => by
    rw [Nat.testBit_and]
    cases hs : s.testBit i
    · rfl
    · rw [h1 i hs]; rfl)
  rw [← this]
  exact Nat.and_le_right
def stB (no pl opn : Nat) (ln nt : Nat → Nat) (s : Nat) (b : Nat × Nat × Nat) : Nat × Nat × Nat :=
  if s ^^^ (s &&& opn) = 0 then
    if sm s (fun _ => 1) 10 < b.2.1 ∨ 5 < sm s (fun _ => 1) 10 ∨ pl < sm s ln no then b
    else if b.2.1 < sm s (fun _ => 1) 10 ∨ b.2.2 < sm s nt no then (s, sm s (fun _ => 1) 10, sm s nt no) else b
  else b
def btB (no pl opn : Nat) (ln nt : Nat → Nat) : Nat → Nat × Nat × Nat
  | 0 => (0, 0, 0)
  | k + 1 => stB no pl opn ln nt (k + 1) (btB no pl opn ln nt k)
theorem btB_sp (no pl opn : Nat) (ln nt : Nat → Nat) (hno : no ≤ 10) (hnt : ∀ o, o < no → nt o ≤ 1000000) (k : Nat) : (btB no pl opn ln nt k).1 ≤ k ∧ (btB no pl opn ln nt k).2.1 = sm (btB no pl opn ln nt k).1 (fun _ => 1) 10 ∧ (btB no pl opn ln nt k).2.1 ≤ 10 ∧ (btB no pl opn ln nt k).2.2 ≤ 10000000 ∧ ∀ j, (btB no pl opn ln nt k).1.testBit j = true → opn.testBit j = true := by
  induction k with
  | zero => exact ⟨Nat.le_refl _, (sm_0 _ _).symm, Nat.zero_le _, Nat.zero_le _, fun j hj => by
      have : Nat.testBit 0 j = true := hj
      rw [Nat.zero_testBit] at this; cases this⟩
  | succ k ih =>
    obtain ⟨h1, h2, h3, h4, h5⟩ := ih
    have e : btB no pl opn ln nt (k + 1) = stB no pl opn ln nt (k + 1) (btB no pl opn ln nt k) := rfl
    have b1 : sm (k + 1) (fun _ => 1) 10 ≤ 10 * 1 := sm_bd 10 (fun o _ => Nat.le_refl _)
    have b2 : sm (k + 1) nt no ≤ no * 1000000 := sm_bd no hnt
    have keep : (btB no pl opn ln nt k).1 ≤ k + 1 ∧ (btB no pl opn ln nt k).2.1 = sm (btB no pl opn ln nt k).1 (fun _ => 1) 10 ∧ (btB no pl opn ln nt k).2.1 ≤ 10 ∧ (btB no pl opn ln nt k).2.2 ≤ 10000000 ∧ ∀ j, (btB no pl opn ln nt k).1.testBit j = true → opn.testBit j = true := ⟨by omega, h2, h3, h4, h5⟩
    rw [e]
    unfold stB
    split
    · rename_i hs
      split
      · exact keep
      · split
        · exact ⟨Nat.le_refl _, rfl, (show sm (k + 1) (fun _ => 1) 10 ≤ 10 by omega), (show sm (k + 1) nt no ≤ 10000000 by omega), (q_sub _ _).mp hs⟩
        · exact keep
    · exact keep
theorem btB_up (no pl opn : Nat) (ln nt : Nat → Nat) (m : Nat) : btB no pl opn ln nt (opn + m) = btB no pl opn ln nt opn := by
  induction m with
  | zero => rfl
  | succ m ih =>
    show stB no pl opn ln nt (opn + m + 1) (btB no pl opn ln nt (opn + m)) = _
    rw [ih]
    unfold stB
    rw [if_neg (fun h => by have := q_sle h; omega)]
theorem e_open {N np no p : Nat} {t w l g t' w' l' g' up hp : Nat → Int32} {uu hh : Int32} {my : Nat → Nat → Bool} (hN : 11 ≤ N) (hno : no ≤ 10) (hm : ∀ o, o < no → m_S_mayPair t w l g t' w' l' g' up uu hp hh (nI p) (nI o) = some (bI (my p o))) :
    ∃ opn, m_S_openOrders N t w l g t' w' l' g' (nI no) up uu hp hh (nI p) = some (nI opn) ∧ opn < 2 ^ no ∧ ∀ o, o < no → opn.testBit o = my p o := by
  unfold m_S_openOrders
  obtain ⟨m, e, h1, h2⟩ := lpU (fun n i (m : Nat) => L_S_openOrders_4 N t w l g t' w' l' g' (nI no) up uu hp hh (fun y1a y2a y3a => some y2a) n (nI p) (nI m) (nI i)) (fun m => some (nI m)) (fun i m => m < 2 ^ i ∧ ∀ o, o < i → m.testBit o = my p o) no
    (fun n s _ => by
      simp only [L_S_openOrders_4, m_B_size]
      simp (disch := omega) only [q_lit, q_m1, q_m1', nI_add, pk_mul, pk_sub, q_sh, q_b1, q_b0, nI_leI, nI_ltI, nI_eq, nI_clamp, q_nle, q_le, q_nlt, q_lt, q_mlt, q_mle, q_ltm, q_lem, q_eqm, q_meq, Nat.not_lt_zero, or_false, false_or, or_true, true_or, and_true, true_and, false_and, and_false, if_true, if_false, ↓reduceIte, Option.bind_some, not_true, not_false_eq_true])
    (fun n i m hi ⟨h1, h2⟩ => by
      have hp2 : m < 2 ^ (i + 1) := Nat.lt_of_lt_of_le h1 (Nat.pow_le_pow_right (by decide) (by omega))
      have hti : m.testBit i = false := Nat.testBit_lt_two_pow h1
      cases hb : my p i with
      | false =>
        refine ⟨m, ?_, hp2, fun o ho => ?_⟩
        · simp only [L_S_openOrders_4, m_B_size]
          simp (disch := omega) only [q_lit, q_m1, q_m1', nI_add, pk_mul, pk_sub, q_sh, q_b1, q_b0, nI_leI, nI_ltI, nI_eq, nI_clamp, q_nle, q_le, q_nlt, q_lt, q_mlt, q_mle, q_ltm, q_lem, q_eqm, q_meq, Nat.not_lt_zero, or_false, false_or, or_true, true_or, and_true, true_and, false_and, and_false, if_true, if_false, ↓reduceIte, Option.bind_some, not_true, not_false_eq_true, hm i hi, hb, bI_0]
        · by_cases x : o = i
          · subst x; rw [hti, hb]
          · exact h2 o (by omega)
      | true =>
        refine ⟨m ||| 2 ^ i, ?_, Nat.or_lt_two_pow hp2 (Nat.pow_lt_pow_right (by decide) (by omega)), fun o ho => ?_⟩
        · simp only [L_S_openOrders_4, m_B_size]
          simp (disch := omega) only [q_lit, q_m1, q_m1', nI_add, pk_mul, pk_sub, q_sh, q_b1, q_b0, nI_leI, nI_ltI, nI_eq, nI_clamp, q_nle, q_le, q_nlt, q_lt, q_mlt, q_mle, q_ltm, q_lem, q_eqm, q_meq, Nat.not_lt_zero, or_false, false_or, or_true, true_or, and_true, true_and, false_and, and_false, if_true, if_false, ↓reduceIte, Option.bind_some, not_true, not_false_eq_true, hm i hi, hb, bI_0, Bool.true_eq_false, q_or]
        · rw [Nat.testBit_or, Nat.testBit_two_pow]
          by_cases x : o = i
          · subst x; simp [hb]
          · have x' : ¬ i = o := fun y => x y.symm
            simp [x', h2 o (by omega)]) N 0 0 (by omega) (by omega) ⟨by decide, fun o ho => by omega⟩
  exact ⟨m, e, h1, h2⟩
theorem e_tlen {N no s : Nat} {l' : Nat → Int32} {ln : Nat → Nat} (hN : 11 ≤ N) (hno : no ≤ 10) (hs : s < 1024) (hl : ∀ o, o < no → l' o = nI (ln o)) : m_B_totalLength N l' (nI no) (nI s) = some (nI (sm s ln no)) := by
  unfold m_B_totalLength
  obtain ⟨m, e, h⟩ := lpU (fun n i (m : Int32) => L_B_totalLength_4 N l' (nI no) (fun y1a y2a y3a => some y2a) n (nI s) m (nI i)) (fun m => some m) (fun i m => m = nI (sm s ln i)) no
    (fun n s _ => by
      simp only [L_B_totalLength_4]
      simp (disch := omega) only [q_lit, q_m1, q_m1', nI_add, pk_mul, pk_sub, q_sh, q_b1, q_b0, nI_leI, nI_ltI, nI_eq, nI_clamp, q_nle, q_le, q_nlt, q_lt, q_mlt, q_mle, q_ltm, q_lem, q_eqm, q_meq, Nat.not_lt_zero, or_false, false_or, or_true, true_or, and_true, true_and, false_and, and_false, if_true, if_false, ↓reduceIte, Option.bind_some, not_true, not_false_eq_true])
    (fun n i m hi h => by
      refine ⟨nI (sm s ln (i + 1)), ?_, rfl⟩
      subst h
      rw [sm_s]
      simp only [L_B_totalLength_4]
      cases hb : s.testBit i
      · simp (disch := omega) only [q_lit, q_m1, q_m1', nI_add, pk_mul, pk_sub, q_sh, q_b1, q_b0, nI_leI, nI_ltI, nI_eq, nI_clamp, q_nle, q_le, q_nlt, q_lt, q_mlt, q_mle, q_ltm, q_lem, q_eqm, q_meq, Nat.not_lt_zero, or_false, false_or, or_true, true_or, and_true, true_and, false_and, and_false, if_true, if_false, ↓reduceIte, Option.bind_some, not_true, not_false_eq_true, hb, Bool.false_eq_true, Nat.add_zero]
      · simp (disch := omega) only [q_lit, q_m1, q_m1', nI_add, pk_mul, pk_sub, q_sh, q_b1, q_b0, nI_leI, nI_ltI, nI_eq, nI_clamp, q_nle, q_le, q_nlt, q_lt, q_mlt, q_mle, q_ltm, q_lem, q_eqm, q_meq, Nat.not_lt_zero, or_false, false_or, or_true, true_or, and_true, true_and, false_and, and_false, if_true, if_false, ↓reduceIte, Option.bind_some, not_true, not_false_eq_true, hb, hl i hi]) N 0 (nI 0) (by omega) (by omega) rfl
  subst h
  exact e
theorem e_twor {N no s p : Nat} {pw pl ow ol cm tl : Nat → Int32} {td ct ag : Int32} {nt : Nat → Nat} (hN : 11 ≤ N) (hno : no ≤ 10) (hs : s < 1024) (hw : ∀ o, o < no → m_S_worthToday pw pl ow ol cm tl td ct ag (nI p) (nI o) = some (nI (nt o))) : m_S_totalWorth N pw pl ow ol (nI no) cm tl td ct ag (nI p) (nI s) = some (nI (sm s nt no)) := by
  unfold m_S_totalWorth
  obtain ⟨m, e, h⟩ := lpU (fun n i (m : Int32) => L_S_totalWorth_5 N pw pl ow ol (nI no) cm tl td ct ag (fun y1a y2a y3a y4a => some y3a) n (nI p) (nI s) m (nI i)) (fun m => some m) (fun i m => m = nI (sm s nt i)) no
    (fun n s _ => by
      simp only [L_S_totalWorth_5, m_B_size]
      simp (disch := omega) only [q_lit, q_m1, q_m1', nI_add, pk_mul, pk_sub, q_sh, q_b1, q_b0, nI_leI, nI_ltI, nI_eq, nI_clamp, q_nle, q_le, q_nlt, q_lt, q_mlt, q_mle, q_ltm, q_lem, q_eqm, q_meq, Nat.not_lt_zero, or_false, false_or, or_true, true_or, and_true, true_and, false_and, and_false, if_true, if_false, ↓reduceIte, Option.bind_some, not_true, not_false_eq_true])
    (fun n i m hi h => by
      refine ⟨nI (sm s nt (i + 1)), ?_, rfl⟩
      subst h
      rw [sm_s]
      simp only [L_S_totalWorth_5, m_B_size]
      cases hb : s.testBit i
      · simp (disch := omega) only [q_lit, q_m1, q_m1', nI_add, pk_mul, pk_sub, q_sh, q_b1, q_b0, nI_leI, nI_ltI, nI_eq, nI_clamp, q_nle, q_le, q_nlt, q_lt, q_mlt, q_mle, q_ltm, q_lem, q_eqm, q_meq, Nat.not_lt_zero, or_false, false_or, or_true, true_or, and_true, true_and, false_and, and_false, if_true, if_false, ↓reduceIte, Option.bind_some, not_true, not_false_eq_true, hb, Bool.false_eq_true, Nat.add_zero]
      · simp (disch := omega) only [q_lit, q_m1, q_m1', nI_add, pk_mul, pk_sub, q_sh, q_b1, q_b0, nI_leI, nI_ltI, nI_eq, nI_clamp, q_nle, q_le, q_nlt, q_lt, q_mlt, q_mle, q_ltm, q_lem, q_eqm, q_meq, Nat.not_lt_zero, or_false, false_or, or_true, true_or, and_true, true_and, false_and, and_false, if_true, if_false, ↓reduceIte, Option.bind_some, not_true, not_false_eq_true, hb, hw i hi]) N 0 (nI 0) (by omega) (by omega) rfl
  subst h
  exact e
theorem e_bestSet {N np no p : Nat} {t w l g t' w' l' g' cm tl up hp : Nat → Int32} {uu hh td ct ag : Int32} {my : Nat → Nat → Bool} {ln nt : Nat → Nat} {pl : Nat} (hN : 1025 ≤ N) (hno : no ≤ 10) (hp10 : p < 10) (hm : ∀ o, o < no → m_S_mayPair t w l g t' w' l' g' up uu hp hh (nI p) (nI o) = some (bI (my p o))) (hl : ∀ o, o < no → l' o = nI (ln o) ∧ ln o ≤ 1000) (hpl : l p = nI pl) (hpl2 : pl ≤ 1000) (hw : ∀ o, o < no → m_S_worthToday w l w' l' cm tl td ct ag (nI p) (nI o) = some (nI (nt o))) (hnt : ∀ o, o < no → nt o ≤ 1000000) :
    ∃ opn, opn < 2 ^ no ∧ (∀ o, o < no → opn.testBit o = my p o) ∧ m_S_bestSet N t w l g t' w' l' g' (nI no) cm tl up uu hp hh td ct ag (nI p) = some (nI (btB no pl opn ln nt opn).1) := by
  obtain ⟨opn, e0, h1, h2⟩ := e_open (N := N) (np := np) (by omega) hno hm
  refine ⟨opn, h1, h2, ?_⟩
  have p1 := q_p2' hno
  unfold m_S_bestSet
  rw [e0, Option.bind_some]
  obtain ⟨st, e, h⟩ := lpU (fun n i (b : Nat × Nat × Nat) => L_S_bestSet_17 N w l w' l' (nI no) cm tl td ct ag (fun y1a y2a y3a y4a y5a y6a => some y3a) n (nI p) (nI opn) (nI b.1) (nI b.2.1) (nI b.2.2) (nI (i + 1))) (fun b => some (nI b.1)) (fun i b => b = btB no pl opn ln nt i) opn
    (fun n s _ => by
      simp only [L_S_bestSet_17]
      simp (disch := omega) only [q_lit, q_m1, q_m1', nI_add, pk_mul, pk_sub, q_sh, q_b1, q_b0, nI_leI, nI_ltI, nI_eq, nI_clamp, q_nle, q_le, q_nlt, q_lt, q_mlt, q_mle, q_ltm, q_lem, q_eqm, q_meq, Nat.not_lt_zero, or_false, false_or, or_true, true_or, and_true, true_and, false_and, and_false, if_true, if_false, ↓reduceIte, Option.bind_some, not_true, not_false_eq_true])
    (fun n i b hi h => by
      refine ⟨stB no pl opn ln nt (i + 1) b, ?_, by rw [h]; rfl⟩
      obtain ⟨c1, c2, c3, c4, c5⟩ := btB_sp no pl opn ln nt hno hnt i
      rw [← h] at c1 c2 c3 c4 c5
      have hs : i + 1 < 1024 := by omega
      have b1 : sm (i + 1) (fun _ => 1) 10 ≤ 10 * 1 := sm_bd 10 (fun o _ => Nat.le_refl _)
      have b2 : sm (i + 1) nt no ≤ no * 1000000 := sm_bd no hnt
      have b3 : sm (i + 1) ln no ≤ no * 1000 := sm_bd no (fun o ho => (hl o ho).2)
      have b4 : (i + 1) ^^^ ((i + 1) &&& opn) < 2 ^ 10 := Nat.xor_lt_two_pow hs (Nat.lt_of_le_of_lt Nat.and_le_left hs)
      have x1 := e_tlen (N := N) (s := i + 1) (ln := ln) (by omega) hno hs (fun o ho => (hl o ho).1)
      have x2 := e_twor (N := N) (s := i + 1) (nt := nt) (by omega) hno hs hw
      have x3 := q_bc (i + 1) hs
      simp only [L_S_bestSet_17, m_B_lengthOf]
      simp (disch := omega) only [q_lit, q_m1, q_m1', nI_add, pk_mul, pk_sub, q_sh, q_b1, q_b0, nI_leI, nI_ltI, nI_eq, nI_clamp, q_nle, q_le, q_nlt, q_lt, q_mlt, q_mle, q_ltm, q_lem, q_eqm, q_meq, Nat.not_lt_zero, or_false, false_or, or_true, true_or, and_true, true_and, false_and, and_false, if_true, if_false, ↓reduceIte, Option.bind_some, not_true, not_false_eq_true, q_not, x1, x2, x3, hpl]
      unfold stB
      by_cases d1 : (i + 1) ^^^ ((i + 1) &&& opn) = 0
      · simp only [if_pos d1]
        by_cases d2 : sm (i + 1) (fun _ => 1) 10 < b.2.1
        · simp only [if_pos d2, if_pos (show sm (i + 1) (fun _ => 1) 10 < b.2.1 ∨ 5 < sm (i + 1) (fun _ => 1) 10 ∨ pl < sm (i + 1) ln no from Or.inl d2)]
        · simp only [if_neg d2]
          by_cases d3 : 5 < sm (i + 1) (fun _ => 1) 10
          · simp only [if_pos d3, if_pos (show sm (i + 1) (fun _ => 1) 10 < b.2.1 ∨ 5 < sm (i + 1) (fun _ => 1) 10 ∨ pl < sm (i + 1) ln no from Or.inr (Or.inl d3))]
          · simp only [if_neg d3]
            by_cases d4 : pl < sm (i + 1) ln no
            · simp only [if_pos d4, if_pos (show sm (i + 1) (fun _ => 1) 10 < b.2.1 ∨ 5 < sm (i + 1) (fun _ => 1) 10 ∨ pl < sm (i + 1) ln no from Or.inr (Or.inr d4))]
            · simp only [if_neg d4, if_neg (show ¬ (sm (i + 1) (fun _ => 1) 10 < b.2.1 ∨ 5 < sm (i + 1) (fun _ => 1) 10 ∨ pl < sm (i + 1) ln no) by omega)]
              by_cases d5 : b.2.1 < sm (i + 1) (fun _ => 1) 10
              · simp only [if_pos d5, if_pos (show b.2.1 < sm (i + 1) (fun _ => 1) 10 ∨ b.2.2 < sm (i + 1) nt no from Or.inl d5)]
              · simp only [if_neg d5]
                by_cases d6 : sm (i + 1) nt no ≤ b.2.2
                · simp only [if_pos d6, if_neg (show ¬ (b.2.1 < sm (i + 1) (fun _ => 1) 10 ∨ b.2.2 < sm (i + 1) nt no) by omega)]
                · simp only [if_neg d6, if_pos (show b.2.1 < sm (i + 1) (fun _ => 1) 10 ∨ b.2.2 < sm (i + 1) nt no from Or.inr (by omega))]
      · simp only [if_neg d1]) N 0 (0, 0, 0) (by omega) (by omega) rfl
  subst h
  exact e
