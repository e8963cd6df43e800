/-! Own rows: the class's prove and solve. -/
def odN (g : Nat → Nat → Nat) (no np o : Nat) : Int32 := nI (TT g no np np (fun _ => false) / 16) - nI (TT g no np np (fun k => decide (k = o)) / 16)
def pdN (g : Nat → Nat → Nat) (no np q : Nat) : Int32 :=
  match chO g no np q with
  | some o => nI (g q o / 16) - odN g no np o
  | none => nI 0
theorem pdN_n {g : Nat → Nat → Nat} {no np q : Nat} (h : chO g no np q = none) : pdN g no np q = nI 0 := by unfold pdN; rw [h]
theorem pdN_s {g : Nat → Nat → Nat} {no np q o : Nat} (h : chO g no np q = some o) : pdN g no np q = nI (g q o / 16) - odN g no np o := by unfold pdN; rw [h]
theorem e_prove {N np no : Nat} {G b c : Nat → Int32} {g : Nat → Nat → Nat} (pd od : Nat → Int32) (hN : 11 ≤ N) (hnp : np ≤ 10) (hno : no ≤ 10) (hg : ∀ p o, p < np → o < no → g p o ≤ 16000001) (hG : ∀ p o, p < np → o < no → G (10 * p + o) = nI (g p o)) (hb : ∀ r s, r ≤ np → s < 2 ^ no → b (1024 * r + s) = nI (TT g no np r (nb s))) (hc : ∀ q, q < np → c q = opI (chO g no np q)) :
    ∃ pd' od', m_M_prove N G b c pd od (nI np) (nI no) = some (pd', od', nI (TT g no np np (fun _ => false) % 16), nI (TT g no np np (fun _ => false) / 16)) ∧ (∀ o, o < no → od' o = odN g no np o) ∧ ∀ q, q < np → pd' q = pdN g no np q := by
  have p1 := q_p2' hno
  have p2 := q_p0' no
  have a4 : (1 : Int32) <<< (nI no &&& 31) = nI (2 ^ no) := q_sh (by omega)
  have a5 : nI (2 ^ no) - 1 = nI (2 ^ no - 1) := q_pr p2
  have a1 : nI np * 1024 + nI (2 ^ no - 1) = nI (1024 * np + (2 ^ no - 1)) := by
    show nI np * nI 1024 + _ = _
    rw [pk_mul, nI_add, Nat.mul_comm]
  have hk0 : ∀ k, k < no → nb (2 ^ no - 1) k = false := fun k hk => by unfold nb; rw [Nat.testBit_two_pow_sub_one, decide_eq_true hk]; rfl
  have hT : b (1024 * np + (2 ^ no - 1)) = nI (TT g no np np (fun _ => false)) := by
    rw [hb np _ (Nat.le_refl _) (by omega), TT_congr g no np np _ (fun _ => false) hk0]
  have hT1 := TT_bd g 16000001 no np hg np (Nat.le_refl _) (fun _ => false)
  have hO : ∀ o, o < no → b (1024 * np + (2 ^ no - 1) - 2 ^ o) = nI (TT g no np np (fun k => decide (k = o))) := fun o ho => by
    have tb : (2 ^ no - 1).testBit o = true := by rw [Nat.testBit_two_pow_sub_one, decide_eq_true ho]
    have d1 := Nat.ge_two_pow_of_testBit tb
    have d0 := q_p0' o
    have e1 : 1024 * np + (2 ^ no - 1) - 2 ^ o = 1024 * np + (2 ^ no - 1 - 2 ^ o) := by omega
    have e3 : st (nb (2 ^ no - 1)) o = nb (2 ^ no - 1 - 2 ^ o) := st_sub (by omega) (by omega) tb
    rw [e1, hb np _ (Nat.le_refl _) (by omega), ← e3, TT_congr g no np np _ (fun k => decide (k = o)) (fun k hk => ?_)]
    unfold st
    by_cases e : k = o
    · simp [e]
    · simp [e, hk0 k hk]
  have hr : nI (TT g no np np (fun _ => false)) - nI (TT g no np np (fun _ => false)) / 16 * 16 = nI (TT g no np np (fun _ => false) % 16) := pk_rem (d := 16) (by omega) (by omega) (by omega)
  have hq : nI (TT g no np np (fun _ => false)) / 16 = nI (TT g no np np (fun _ => false) / 16) := pk_div (d := 16) (by omega) (by omega) (by omega)
  have hr' : nI (TT g no np np (fun _ => false)) - nI (TT g no np np (fun _ => false) / 16) * 16 = nI (TT g no np np (fun _ => false) % 16) := by rw [← hq]; exact hr
  have hcl : (nI (1024 * np + (2 ^ no - 1))).toNatClampNeg = 1024 * np + (2 ^ no - 1) := nI_clamp (by omega)
  have hin : ¬ (nI (1024 * np + (2 ^ no - 1)) < 0 ∨ 11264 ≤ 1024 * np + (2 ^ no - 1)) := fun x => x.elim (nI_pos (by omega)) (by omega)
  have l42 : ∀ K, ∃ od', L_M_prove_42 N b (nI no) K N (nI (1024 * np + (2 ^ no - 1))) (nI 0) pd od (nI (TT g no np np (fun _ => false) % 16)) (nI (TT g no np np (fun _ => false) / 16)) = K (nI (1024 * np + (2 ^ no - 1))) (nI no) pd od' (nI (TT g no np np (fun _ => false) % 16)) (nI (TT g no np np (fun _ => false) / 16)) ∧ ∀ o, o < no → od' o = odN g no np o := by
    intro K
    refine lpU (fun n i od => L_M_prove_42 N b (nI no) K n (nI (1024 * np + (2 ^ no - 1))) (nI i) pd od (nI (TT g no np np (fun _ => false) % 16)) (nI (TT g no np np (fun _ => false) / 16))) (fun od => K (nI (1024 * np + (2 ^ no - 1))) (nI no) pd od (nI (TT g no np np (fun _ => false) % 16)) (nI (TT g no np np (fun _ => false) / 16))) (fun i od => ∀ o, o < i → od o = odN g no np o) no ?_ ?_ N 0 od (by omega) (by omega) (fun o ho => by omega)
    · intro n s _
      simp only [L_M_prove_42]
      simp (disch := omega) only [nI_leI, q_le, ↓reduceIte]
    · intro n i s hi h
      have tb : (2 ^ no - 1).testBit i = true := by rw [Nat.testBit_two_pow_sub_one, decide_eq_true hi]
      have d1 := Nat.ge_two_pow_of_testBit tb
      have d0 := q_p0' i
      have hT2 := TT_bd g 16000001 no np hg np (Nat.le_refl _) (fun k => decide (k = i))
      refine ⟨upd s i (odN g no np i), ?_, fun o ho => ?_⟩
      · simp only [L_M_prove_42]
        simp (disch := omega) only [q_lit, q_m1, q_m1', nI_add, pk_mul, pk_sub, q_sh, q_b1, q_b0, nI_leI, nI_ltI, nI_eq, nI_clamp, q_nle, q_le, q_nlt, q_lt, q_mlt, q_mle, q_ltm, q_lem, q_eqm, q_meq, Nat.not_lt_zero, or_false, false_or, or_true, true_or, and_true, true_and, false_and, and_false, if_true, if_false, ↓reduceIte, Option.bind_some, not_true, not_false_eq_true, hO i hi, pk_div]
        rfl
      · by_cases e : o = i
        · subst e; exact pk_us
        · rw [pk_un e]; exact h o (by omega)
  have l82 : ∀ K od', (∀ o, o < no → od' o = odN g no np o) → ∃ pd', L_M_prove_82 N G c (nI np) K N (nI (1024 * np + (2 ^ no - 1))) (nI 0) pd od' (nI (TT g no np np (fun _ => false) % 16)) (nI (TT g no np np (fun _ => false) / 16)) = K (nI (1024 * np + (2 ^ no - 1))) (nI np) pd' od' (nI (TT g no np np (fun _ => false) % 16)) (nI (TT g no np np (fun _ => false) / 16)) ∧ ∀ q, q < np → pd' q = pdN g no np q := by
    intro K od' hod
    refine lpU (fun n i pd => L_M_prove_82 N G c (nI np) K n (nI (1024 * np + (2 ^ no - 1))) (nI i) pd od' (nI (TT g no np np (fun _ => false) % 16)) (nI (TT g no np np (fun _ => false) / 16))) (fun pd' => K (nI (1024 * np + (2 ^ no - 1))) (nI np) pd' od' (nI (TT g no np np (fun _ => false) % 16)) (nI (TT g no np np (fun _ => false) / 16))) (fun i pd' => ∀ q, q < i → pd' q = pdN g no np q) np ?_ ?_ N 0 pd (by omega) (by omega) (fun o ho => by omega)
    · intro n s _
      simp only [L_M_prove_82]
      simp (disch := omega) only [nI_leI, q_le, ↓reduceIte]
    · intro n i s hi h
      refine ⟨upd s i (pdN g no np i), ?_, fun q hq => ?_⟩
      · have hci := hc i hi
        cases hcc : chO g no np i with
        | none =>
          rw [hcc] at hci
          simp only [opI] at hci
          rw [pdN_n hcc]
          simp only [L_M_prove_82]
          simp (disch := omega) only [q_lit, q_m1, q_m1', nI_add, pk_mul, pk_sub, q_sh, q_b1, q_b0, nI_leI, nI_ltI, nI_eq, nI_clamp, q_nle, q_le, q_nlt, q_lt, q_mlt, q_mle, q_ltm, q_lem, q_eqm, q_meq, Nat.not_lt_zero, or_false, false_or, or_true, true_or, and_true, true_and, false_and, and_false, if_true, if_false, ↓reduceIte, Option.bind_some, not_true, not_false_eq_true, hci]
        | some o =>
          rw [hcc] at hci
          simp only [opI] at hci
          rw [pdN_s hcc]
          obtain ⟨o1, _⟩ := chO_s hcc
          have ix : i * 10 + o = 10 * i + o := by omega
          have hgi := hG i o hi o1
          have hgb := hg i o hi o1
          simp only [L_M_prove_82, m_S_pairIndex]
          simp (disch := omega) only [q_lit, q_m1, q_m1', nI_add, pk_mul, pk_sub, q_sh, q_b1, q_b0, nI_leI, nI_ltI, nI_eq, nI_clamp, q_nle, q_le, q_nlt, q_lt, q_mlt, q_mle, q_ltm, q_lem, q_eqm, q_meq, Nat.not_lt_zero, or_false, false_or, or_true, true_or, and_true, true_and, false_and, and_false, if_true, if_false, ↓reduceIte, Option.bind_some, not_true, not_false_eq_true, hci, ix, hgi, pk_div, hod o o1]
      · by_cases e : q = i
        · subst e; exact pk_us
        · rw [pk_un e]; exact h q (by omega)
  obtain ⟨od', e1, h1⟩ := l42 (fun y1a y2a m_pieceDualsa m_orderDualsa m_pairsa m_worthSuma =>
    L_M_prove_82 N G c (nI np) (fun y1b y2b m_pieceDualsb m_orderDualsb m_pairsb m_worthSumb =>
      some (m_pieceDualsb, m_orderDualsb, m_pairsb, m_worthSumb)) N y1a 0 m_pieceDualsa m_orderDualsa m_pairsa m_worthSuma)
  obtain ⟨pd', e2, h2⟩ := l82 (fun y1b y2b m_pieceDualsb m_orderDualsb m_pairsb m_worthSumb => some (m_pieceDualsb, m_orderDualsb, m_pairsb, m_worthSumb)) od' h1
  refine ⟨pd', od', ?_, h1, h2⟩
  unfold m_M_prove m_M_allOrders
  rw [a4, a5]
  simp only [Option.bind_some, a1, hcl, hT, hq, hr', if_neg hin]
  exact e1.trans e2
theorem e_solve {N np no : Nat} {G bst : Nat → Int32} {g : Nat → Nat → Nat} (ch pd od : Nat → Int32) (hN : 1025 ≤ N) (hnp : np ≤ 10) (hno : no ≤ 10) (hg : ∀ p o, p < np → o < no → g p o ≤ 16000001) (hG : ∀ p o, p < np → o < no → G (10 * p + o) = nI (g p o)) (hz : ∀ s, s < 1024 → bst s = nI 0) :
    ∃ b' c' pd' od', m_M_solve N G bst ch pd od (nI np) (nI no) = some (b', c', pd', od', nI np, nI no, nI (TT g no np np (fun _ => false) % 16), nI (TT g no np np (fun _ => false) / 16), nI 1) ∧ (∀ s, s < 1024 → b' s = nI 0) ∧ (∀ q, q < np → c' q = opI (chO g no np q)) ∧ (∀ o, o < no → od' o = odN g no np o) ∧ ∀ q, q < np → pd' q = pdN g no np q := by
  obtain ⟨b', e1, h1, h2⟩ := e_fillBest (N := N) hN hnp hno hg hG hz
  obtain ⟨c', e2, h3⟩ := e_choose (N := N) ch (by omega) hnp hno hg hG h1
  obtain ⟨pd', od', e3, h4, h5⟩ := e_prove (N := N) pd od (by omega) hnp hno hg hG h1 h3
  refine ⟨b', c', pd', od', ?_, h2, h3, h4, h5⟩
  unfold m_M_solve
  rw [e1]
  simp only [Option.bind_some]
  rw [e2]
  simp only [Option.bind_some]
  rw [e3]
  rfl
