/-! Own rows: run, in the class and in the reference. -/
def stC (g : Nat → Nat → Nat) (no np : Nat) (s0 : CS) : Nat → CS
  | 0 => s0
  | p + 1 => match chO g no np p with
    | some o => cutF (stC g no np s0 p) p (nI (2 ^ o))
    | none => stC g no np s0 p
theorem stC_n {g : Nat → Nat → Nat} {no np p : Nat} {s0 : CS} (h : chO g no np p = none) : stC g no np s0 (p + 1) = stC g no np s0 p := by
  show (match chO g no np p with
    | some o => cutF (stC g no np s0 p) p (nI (2 ^ o))
    | none => stC g no np s0 p) = _
  rw [h]
theorem stC_s {g : Nat → Nat → Nat} {no np p o : Nat} {s0 : CS} (h : chO g no np p = some o) : stC g no np s0 (p + 1) = cutF (stC g no np s0 p) p (nI (2 ^ o)) := by
  show (match chO g no np p with
    | some o => cutF (stC g no np s0 p) p (nI (2 ^ o))
    | none => stC g no np s0 p) = _
  rw [h]
theorem e_run27 {N np no : Nat} {g : Nat → Nat → Nat} {s0 : CS} {G b c pd od : Nat → Int32} {pc oc pr ws ut : Int32} {K : _} (hN : 11 ≤ N) (hnp : np ≤ 10) (hno : no ≤ 10) (hc : ∀ q, q < np → c q = opI (chO g no np q)) :
    L_S_run_27 N (nI np) K N (nI 0) s0.1 s0.2.1 s0.2.2.1 s0.2.2.2 G b c pd od pc oc pr ws ut = K (nI np) (stC g no np s0 np).1 (stC g no np s0 np).2.1 (stC g no np s0 np).2.2.1 (stC g no np s0 np).2.2.2 G b c pd od pc oc pr ws ut := by
  obtain ⟨s', e, rfl⟩ := lpU (fun n i (s : CS) => L_S_run_27 N (nI np) K n (nI i) s.1 s.2.1 s.2.2.1 s.2.2.2 G b c pd od pc oc pr ws ut) (fun s => K (nI np) s.1 s.2.1 s.2.2.1 s.2.2.2 G b c pd od pc oc pr ws ut) (fun i s => s = stC g no np s0 i) np
    (fun n s _ => by
      simp only [L_S_run_27, m_B_size]
      simp (disch := omega) only [q_lit, q_m1, q_m1', nI_add, pk_mul, pk_sub, q_sh, q_b1, q_b0, nI_leI, nI_ltI, nI_eq, nI_clamp, q_nle, q_le, q_nlt, q_lt, q_mlt, q_mle, q_ltm, q_lem, q_eqm, q_meq, Nat.not_lt_zero, or_false, false_or, or_true, true_or, and_true, true_and, false_and, and_false, if_true, if_false, ↓reduceIte, Option.bind_some, not_true, not_false_eq_true])
    (fun n i s hi h => by
      refine ⟨stC g no np s0 (i + 1), ?_, rfl⟩
      have hci := hc i hi
      cases hcc : chO g no np i with
      | none =>
        rw [hcc] at hci
        simp only [opI] at hci
        rw [stC_n hcc, h]
        simp only [L_S_run_27, m_B_size, m_M_chosenFor]
        simp (disch := omega) only [q_lit, q_m1, q_m1', nI_add, pk_mul, pk_sub, q_sh, q_b1, q_b0, nI_leI, nI_ltI, nI_eq, nI_clamp, q_nle, q_le, q_nlt, q_lt, q_mlt, q_mle, q_ltm, q_lem, q_eqm, q_meq, Nat.not_lt_zero, or_false, false_or, or_true, true_or, and_true, true_and, false_and, and_false, if_true, if_false, ↓reduceIte, Option.bind_some, not_true, not_false_eq_true, hci]
      | some o =>
        rw [hcc] at hci
        simp only [opI] at hci
        obtain ⟨o1, _⟩ := chO_s hcc
        rw [stC_s hcc, h]
        simp only [L_S_run_27, m_B_size, m_M_chosenFor]
        simp (disch := omega) only [q_lit, q_m1, q_m1', nI_add, pk_mul, pk_sub, q_sh, q_b1, q_b0, nI_leI, nI_ltI, nI_eq, nI_clamp, q_nle, q_le, q_nlt, q_lt, q_mlt, q_mle, q_ltm, q_lem, q_eqm, q_meq, Nat.not_lt_zero, or_false, false_or, or_true, true_or, and_true, true_and, false_and, and_false, if_true, if_false, ↓reduceIte, Option.bind_some, not_true, not_false_eq_true, hci, e_cut (show i < 10 by omega)]) N 0 s0 (by omega) (by omega) rfl
  exact e
theorem e_146 {N np no p S : Nat} {td ct ag y1 y3 thr ran sum : Int32} {d d' dcm dw du db rf rt dpd dod : Nat → Int32} {tab : Nat → Int64} {my : Nat → Nat → Bool} {nt : Nat → Nat → Nat} {K : _} (hN : 11 ≤ N) (hnp : np ≤ 10) (hno : no ≤ 10) (hp : p < np) (hS : S < 1024) (hnt : ∀ p o, p < np → o < no → nt p o ≤ 1000000)
    (hc : ∀ o, o < no → S.testBit o = false → m_D_can N td (nI np) d d' du db rf rt (nI p) (nI o) = some (bI (my p o))) (hw : ∀ p o, p < np → o < no → m_D_netOf td ct ag d d' dcm dw (nI p) (nI o) = some (nI (nt p o)))
    (ht : ∀ q s, q ≤ np → s < 1024 → tab (1024 * q + s) = lN (TT (gf my nt) no np (np - q) s.testBit)) :
    L_D_run_146 N td ct ag (nI np) d d' dcm dw rt K N y1 (nI S) y3 (nI p) (-1) (nI no - 1) thr du db rf ran sum dpd dod tab = K y1 (nI S) y3 (nI p) (opI (lowP (ckB (gf my nt) no np p S.testBit) no)) (nI 0 - 1) thr du db rf ran sum dpd dod tab := by
  have hgb : ∀ p o, p < np → o < no → gf my nt p o ≤ 16000001 := fun p o h1 h2 => by unfold gf; have := hnt p o h1 h2; split <;> omega
  obtain ⟨b, e, h⟩ := lpD (fun n i (b : Option Nat) => L_D_run_146 N td ct ag (nI np) d d' dcm dw rt K n y1 (nI S) y3 (nI p) (opI b) (nI i - 1) thr du db rf ran sum dpd dod tab) (fun b => K y1 (nI S) y3 (nI p) (opI b) (nI 0 - 1) thr du db rf ran sum dpd dod tab)
    (fun i b => i ≤ no ∧ ((b = none ∧ ∀ j, i ≤ j → j < no → ckB (gf my nt) no np p S.testBit j = false) ∨ ∃ o, b = some o ∧ i ≤ o ∧ o < no ∧ ckB (gf my nt) no np p S.testBit o = true ∧ ∀ j, i ≤ j → j < o → ckB (gf my nt) no np p S.testBit j = false))
    (fun n b _ => by
      simp only [L_D_run_146]
      have : nI 0 - 1 < (0 : Int32) := by decide +kernel
      rw [if_pos this])
    (fun n i b ⟨hi, h⟩ => by
      have a1 : nI (i + 1) - 1 = nI i := nI_pred i
      have skip : ckB (gf my nt) no np p S.testBit i = false → (i ≤ no ∧ ((b = none ∧ ∀ j, i ≤ j → j < no → ckB (gf my nt) no np p S.testBit j = false) ∨ ∃ o, b = some o ∧ i ≤ o ∧ o < no ∧ ckB (gf my nt) no np p S.testBit o = true ∧ ∀ j, i ≤ j → j < o → ckB (gf my nt) no np p S.testBit j = false)) := fun x => ⟨by omega, by
        rcases h with ⟨h1, h2⟩ | ⟨o, h1, h2, h3, h4, h5⟩
        · refine Or.inl ⟨h1, fun j j1 j2 => ?_⟩
          by_cases e : j = i
          · subst e; exact x
          · exact h2 j (by omega) j2
        · refine Or.inr ⟨o, h1, by omega, h3, h4, fun j j1 j2 => ?_⟩
          by_cases e : j = i
          · subst e; exact x
          · exact h5 j (by omega) j2⟩
      simp only [L_D_run_146]
      rw [a1]
      by_cases hb : S.testBit i = true
      · refine ⟨b, ?_, skip (decide_eq_false (fun x => by rw [hb] at x; exact Bool.noConfusion x.2.1))⟩
        simp (disch := omega) only [q_lit, q_m1, q_m1', nI_add, pk_mul, pk_sub, q_sh, q_b1, q_b0, nI_leI, nI_ltI, nI_eq, nI_clamp, q_nle, q_le, q_nlt, q_lt, q_mlt, q_mle, q_ltm, q_lem, q_eqm, q_meq, Nat.not_lt_zero, or_false, false_or, or_true, true_or, and_true, true_and, false_and, and_false, if_true, if_false, ↓reduceIte, Option.bind_some, not_true, not_false_eq_true, hb, q_am]
      · have hb' : S.testBit i = false := by simpa using hb
        cases hm : my p i with
        | false =>
          refine ⟨b, ?_, skip (decide_eq_false (fun x => ?_))⟩
          · simp (disch := omega) only [q_lit, q_m1, q_m1', nI_add, pk_mul, pk_sub, q_sh, q_b1, q_b0, nI_leI, nI_ltI, nI_eq, nI_clamp, q_nle, q_le, q_nlt, q_lt, q_mlt, q_mle, q_ltm, q_lem, q_eqm, q_meq, Nat.not_lt_zero, or_false, false_or, or_true, true_or, and_true, true_and, false_and, and_false, if_true, if_false, ↓reduceIte, Option.bind_some, not_true, not_false_eq_true, hb', q_am, hc i (by omega) hb', hm, bI_0, Bool.false_eq_true]
          · have := x.1
            unfold gf at this
            rw [hm] at this
            simp at this
        | true =>
          have hg : gf my nt p i = nt p i * 16 + 1 := by unfold gf; rw [hm]; rfl
          have s1 := q_orl hS (show i < 10 by omega)
          have x1 := ht (p + 1) (S ||| 2 ^ i) (by omega) s1
          have x2 := ht p S (by omega) hS
          have y1 := TT_bd (gf my nt) 16000001 no np hgb (np - (p + 1)) (by omega) (S ||| 2 ^ i).testBit
          have y2 := TT_bd (gf my nt) 16000001 no np hgb (np - p) (by omega) S.testBit
          have y3 := hnt p i hp (by omega)
          by_cases c3 : TT (gf my nt) no np (np - (p + 1)) (S ||| 2 ^ i).testBit + 16 * nt p i + 1 = TT (gf my nt) no np (np - p) S.testBit
          · refine ⟨some i, ?_, by omega, Or.inr ⟨i, rfl, by omega, by omega, decide_eq_true ⟨by omega, hb', by rw [st_or, hg]; omega⟩, fun j j1 j2 => by omega⟩⟩
            simp (disch := omega) only [q_lit, q_m1, q_m1', nI_add, pk_mul, pk_sub, q_sh, q_b1, q_b0, nI_leI, nI_ltI, nI_eq, nI_clamp, q_nle, q_le, q_nlt, q_lt, q_mlt, q_mle, q_ltm, q_lem, q_eqm, q_meq, Nat.not_lt_zero, or_false, false_or, or_true, true_or, and_true, true_and, false_and, and_false, if_true, if_false, ↓reduceIte, Option.bind_some, not_true, not_false_eq_true, hb', q_am, q_or, hc i (by omega) hb', hm, bI_0, Bool.false_eq_true, Bool.true_eq_false, hw p i hp (by omega), x1, x2, nI_l, q_litL, lN_mul, lN_add, q_ceq, lN_eq, opI]
            rw [if_pos c3]
          · refine ⟨b, ?_, skip (decide_eq_false (fun x => c3 ?_))⟩
            · simp (disch := omega) only [q_lit, q_m1, q_m1', nI_add, pk_mul, pk_sub, q_sh, q_b1, q_b0, nI_leI, nI_ltI, nI_eq, nI_clamp, q_nle, q_le, q_nlt, q_lt, q_mlt, q_mle, q_ltm, q_lem, q_eqm, q_meq, Nat.not_lt_zero, or_false, false_or, or_true, true_or, and_true, true_and, false_and, and_false, if_true, if_false, ↓reduceIte, Option.bind_some, not_true, not_false_eq_true, hb', q_am, q_or, hc i (by omega) hb', hm, bI_0, Bool.false_eq_true, Bool.true_eq_false, hw p i hp (by omega), x1, x2, nI_l, q_litL, lN_mul, lN_add, q_ceq, lN_eq]
              rw [if_neg c3]
            · have := x.2.2
              rw [st_or, hg] at this
              omega) no N none (by omega) ⟨Nat.le_refl _, Or.inl ⟨rfl, fun j j1 j2 => by omega⟩⟩
  have hb : b = lowP (ckB (gf my nt) no np p S.testBit) no := by
    refine lowP_uniq ?_
    rcases h.2 with ⟨h1, h2⟩ | ⟨o, h1, _, h3, h4, h5⟩
    · exact Or.inl ⟨h1, fun j hj => h2 j (by omega) hj⟩
    · exact Or.inr ⟨o, h1, h3, h4, fun j hj => h5 j (by omega) hj⟩
  rw [← hb]
  exact e
