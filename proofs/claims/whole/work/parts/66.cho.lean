/-! Own rows: the choice of the orders, and the class's solve. -/
def lowP (P : Nat → Bool) : Nat → Option Nat
  | 0 => none
  | k + 1 => match lowP P k with
    | some o => some o
    | none => if P k = true then some k else none
theorem lowP_spec (P : Nat → Bool) (k : Nat) : (lowP P k = none ∧ ∀ j, j < k → P j = false) ∨ ∃ o, lowP P k = some o ∧ o < k ∧ P o = true ∧ ∀ j, j < o → P j = false := by
  induction k with
  | zero => exact Or.inl ⟨rfl, fun j hj => by omega⟩
  | succ k ih =>
    unfold lowP
    rcases ih with ⟨e, h⟩ | ⟨o, e, h1, h2, h3⟩
    · rw [e]
      by_cases c : P k = true
      · exact Or.inr ⟨k, if_pos c, by omega, c, h⟩
      · refine Or.inl ⟨if_neg c, fun j hj => ?_⟩
        by_cases x : j = k
        · subst x; simpa using c
        · exact h j (by omega)
    · rw [e]
      exact Or.inr ⟨o, rfl, by omega, h2, h3⟩
theorem lowP_uniq {P : Nat → Bool} {k : Nat} {b : Option Nat} (h : (b = none ∧ ∀ j, j < k → P j = false) ∨ ∃ o, b = some o ∧ o < k ∧ P o = true ∧ ∀ j, j < o → P j = false) : b = lowP P k := by
  rcases lowP_spec P k with ⟨e, h'⟩ | ⟨o', e, h1', h2', h3'⟩ <;> rcases h with ⟨rfl, h⟩ | ⟨o, rfl, h1, h2, h3⟩
  · exact e.symm
  · rw [h' o h1] at h2; cases h2
  · rw [h o' h1'] at h2'; cases h2'
  · rw [e]
    refine congrArg some ?_
    rcases Nat.lt_trichotomy o o' with x | x | x
    · rw [h3' o x] at h2; cases h2
    · exact x
    · rw [h3 o' x] at h2'; cases h2'
theorem lowP_congr {P P' : Nat → Bool} {k : Nat} (h : ∀ o, o < k → P o = P' o) : lowP P k = lowP P' k := by
  refine lowP_uniq ?_
  rcases lowP_spec P k with ⟨e, h'⟩ | ⟨o, e, h1, h2, h3⟩
  · exact Or.inl ⟨e, fun j hj => by rw [← h j hj]; exact h' j hj⟩
  · exact Or.inr ⟨o, e, h1, by rw [← h o h1]; exact h2, fun j hj => by rw [← h j (by omega)]; exact h3 j hj⟩
def opI : Option Nat → Int32
  | none => mI
  | some o => nI o
def ckB (g : Nat → Nat → Nat) (no np p : Nat) (S : Nat → Bool) (o : Nat) : Bool := decide (0 < g p o ∧ S o = false ∧ TT g no np (np - (p + 1)) (st S o) + g p o = TT g no np (np - p) S)
theorem ckB_congr {g : Nat → Nat → Nat} {no np p : Nat} {S S' : Nat → Bool} (h : ∀ k, k < no → S k = S' k) : ∀ o, o < no → ckB g no np p S o = ckB g no np p S' o := by
  intro o ho
  unfold ckB
  rw [h o ho, TT_congr g no np (np - p) S S' h, TT_congr g no np (np - (p + 1)) (st S o) (st S' o) (fun k hk => by unfold st; rw [h k hk])]
def chS (g : Nat → Nat → Nat) (no np : Nat) : Nat → Nat → Bool
  | 0 => fun _ => false
  | p + 1 => match lowP (ckB g no np p (chS g no np p)) no with
    | some o => st (chS g no np p) o
    | none => chS g no np p
def chO (g : Nat → Nat → Nat) (no np p : Nat) : Option Nat := lowP (ckB g no np p (chS g no np p)) no
theorem chS_n {g : Nat → Nat → Nat} {no np p : Nat} (h : chO g no np p = none) : chS g no np (p + 1) = chS g no np p := by
  unfold chO at h
  show (match lowP (ckB g no np p (chS g no np p)) no with
    | some o => st (chS g no np p) o
    | none => chS g no np p) = _
  rw [h]
theorem chS_s {g : Nat → Nat → Nat} {no np p o : Nat} (h : chO g no np p = some o) : chS g no np (p + 1) = st (chS g no np p) o := by
  unfold chO at h
  show (match lowP (ckB g no np p (chS g no np p)) no with
    | some o => st (chS g no np p) o
    | none => chS g no np p) = _
  rw [h]
theorem chO_s {g : Nat → Nat → Nat} {no np p o : Nat} (h : chO g no np p = some o) : o < no ∧ 0 < g p o ∧ chS g no np p o = false ∧ TT g no np (np - (p + 1)) (st (chS g no np p) o) + g p o = TT g no np (np - p) (chS g no np p) := by
  unfold chO at h
  rcases lowP_spec (ckB g no np p (chS g no np p)) no with ⟨e, _⟩ | ⟨o', e, h1, h2, _⟩
  · rw [e] at h; cases h
  · rw [e] at h
    cases h
    have h3 := of_decide_eq_true h2
    exact ⟨h1, h3⟩
theorem chO_n {g : Nat → Nat → Nat} {no np p : Nat} (hp : p < np) (h : chO g no np p = none) : TT g no np (np - (p + 1)) (chS g no np p) = TT g no np (np - p) (chS g no np p) := by
  unfold chO at h
  rcases lowP_spec (ckB g no np p (chS g no np p)) no with ⟨_, h'⟩ | ⟨o', e, _⟩
  · obtain ⟨r, hr⟩ : ∃ r, np - p = r + 1 := ⟨np - p - 1, by omega⟩
    have hr' : np - (p + 1) = r := by omega
    have hp' : np - (r + 1) = p := by omega
    rw [hr', hr]
    rcases TM_opt (g p) (TT g no np r) (chS g no np p) no with x | ⟨o, x1, x2, x3, x4⟩
    · show _ = TM (g (np - (r + 1))) (TT g no np r) (chS g no np p) no
      rw [hp', x]
    · exfalso
      have := of_decide_eq_false (h' o x1)
      refine this ⟨x2, x3, ?_⟩
      rw [hr', hr]
      show _ = TM (g (np - (r + 1))) (TT g no np r) (chS g no np p) no
      rw [hp', x4]
  · rw [e] at h; cases h
theorem e_lowest {N np no p lf : Nat} {G b : Nat → Int32} {g : Nat → Nat → Nat} (hN : 11 ≤ N) (hnp : np ≤ 10) (hno : no ≤ 10) (hg : ∀ p o, p < np → o < no → g p o ≤ 16000001) (hG : ∀ p o, p < np → o < no → G (10 * p + o) = nI (g p o)) (hb : ∀ r s, r ≤ np → s < 2 ^ no → b (1024 * r + s) = nI (TT g no np r (nb s))) (hp : p < np) (hl : lf < 2 ^ no) :
    m_M_lowestOfBest N G b (nI np) (nI no) (nI p) (nI lf) = some (opI (lowP (ckB g no np p (nb lf)) no)) := by
  have p1 := q_p2' hno
  unfold m_M_lowestOfBest
  have a1 : (nI np - nI p) * 1024 = nI (1024 * (np - p)) := by
    show (nI np - nI p) * nI 1024 = _
    rw [pk_sub (by omega), pk_mul, Nat.mul_comm]
  have a2 : nI (1024 * (np - p)) - 1024 = nI (1024 * (np - (p + 1))) := by
    show nI (1024 * (np - p)) - nI 1024 = _
    rw [pk_sub (by omega)]
    exact congrArg nI (by omega)
  rw [a1, a2]
  have key : ∀ m i n, i + m = no → m < n → (∀ j, j < i → ckB g no np p (nb lf) j = false) → L_M_lowestOfBest_21 N G b (nI no) (fun y1a y2a y3a y4a y5a => some (-1)) n (nI p) (nI lf) (nI (1024 * (np - p))) (nI (1024 * (np - (p + 1)))) (nI i) = some (opI (lowP (ckB g no np p (nb lf)) no)) := by
    intro m
    induction m with
    | zero =>
      intro i n h1 h2 h3
      obtain ⟨n, rfl⟩ : ∃ k, n = k + 1 := ⟨n - 1, by omega⟩
      obtain rfl : i = no := by omega
      rw [← lowP_uniq (Or.inl ⟨rfl, h3⟩)]
      simp only [L_M_lowestOfBest_21]
      simp (disch := omega) only [q_lit, q_m1, q_m1', nI_add, pk_mul, pk_sub, q_sh, q_b1, q_b0, nI_leI, nI_ltI, nI_eq, nI_clamp, q_nle, q_le, q_nlt, q_lt, q_mlt, q_mle, q_ltm, q_lem, q_eqm, q_meq, Nat.not_lt_zero, or_false, false_or, or_true, true_or, and_true, true_and, false_and, and_false, if_true, if_false, ↓reduceIte, Option.bind_some, not_true, not_false_eq_true]
      rfl
    | succ m ih =>
      intro i n h1 h2 h3
      obtain ⟨n, rfl⟩ : ∃ k, n = k + 1 := ⟨n - 1, by omega⟩
      have hgi := hG p i hp (by omega)
      have hgb := hg p i hp (by omega)
      have ix : p * 10 + i = 10 * p + i := by omega
      have nxt : ckB g no np p (nb lf) i = false → ∀ j, j < i + 1 → ckB g no np p (nb lf) j = false := fun x j hj => by
        by_cases e : j = i
        · subst e; exact x
        · exact h3 j (by omega)
      simp only [L_M_lowestOfBest_21, m_S_pairIndex]
      by_cases c1 : g p i = 0
      · simp (disch := omega) only [q_lit, q_m1, q_m1', nI_add, pk_mul, pk_sub, q_sh, q_b1, q_b0, nI_leI, nI_ltI, nI_eq, nI_clamp, q_nle, q_le, q_nlt, q_lt, q_mlt, q_mle, q_ltm, q_lem, q_eqm, q_meq, Nat.not_lt_zero, or_false, false_or, or_true, true_or, and_true, true_and, false_and, and_false, if_true, if_false, ↓reduceIte, Option.bind_some, not_true, not_false_eq_true, ix, hgi, c1]
        exact ih (i + 1) n (by omega) (by omega) (nxt (decide_eq_false (fun x => by omega)))
      · by_cases c2 : lf.testBit i = true
        · have d1 := Nat.ge_two_pow_of_testBit c2
          have d0 := q_p0' i
          have x1 : b (1024 * (np - (p + 1)) + lf - 2 ^ i) = nI (TT g no np (np - (p + 1)) (st (nb lf) i)) := by
            have : 1024 * (np - (p + 1)) + lf - 2 ^ i = 1024 * (np - (p + 1)) + (lf - 2 ^ i) := by omega
            rw [this, hb _ _ (by omega) (by omega)]
            have e3 : st (nb lf) i = nb (lf - 2 ^ i) := st_sub (by omega) (by omega) c2
            rw [e3]
          have x2 := hb (np - p) lf (by omega) hl
          have y1 := TT_bd g 16000001 no np hg (np - (p + 1)) (by omega) (st (nb lf) i)
          have y2 := TT_bd g 16000001 no np hg (np - p) (by omega) (nb lf)
          have c2' : ¬ lf.testBit i = false := by rw [c2]; exact Bool.noConfusion
          simp (disch := omega) only [q_lit, q_m1, q_m1', nI_add, pk_mul, pk_sub, q_sh, q_b1, q_b0, nI_leI, nI_ltI, nI_eq, nI_clamp, q_nle, q_le, q_nlt, q_lt, q_mlt, q_mle, q_ltm, q_lem, q_eqm, q_meq, Nat.not_lt_zero, or_false, false_or, or_true, true_or, and_true, true_and, false_and, and_false, if_true, if_false, ↓reduceIte, Option.bind_some, not_true, not_false_eq_true, ix, hgi, q_mk0, c2, x1, x2, Bool.true_eq_false]
          by_cases c3 : g p i + TT g no np (np - (p + 1)) (st (nb lf) i) = TT g no np (np - p) (nb lf)
          · rw [if_pos c3]
            have hk : ckB g no np p (nb lf) i = true := decide_eq_true ⟨by omega, by unfold nb; rw [c2]; rfl, by omega⟩
            rw [← lowP_uniq (Or.inr ⟨i, rfl, by omega, hk, h3⟩)]
            rfl
          · rw [if_neg c3]
            exact ih (i + 1) n (by omega) (by omega) (nxt (decide_eq_false (fun x => c3 (by omega))))
        · have c2' : lf.testBit i = false := by simpa using c2
          simp (disch := omega) only [q_lit, q_m1, q_m1', nI_add, pk_mul, pk_sub, q_sh, q_b1, q_b0, nI_leI, nI_ltI, nI_eq, nI_clamp, q_nle, q_le, q_nlt, q_lt, q_mlt, q_mle, q_ltm, q_lem, q_eqm, q_meq, Nat.not_lt_zero, or_false, false_or, or_true, true_or, and_true, true_and, false_and, and_false, if_true, if_false, ↓reduceIte, Option.bind_some, not_true, not_false_eq_true, ix, hgi, q_mk0, c2']
          refine ih (i + 1) n (by omega) (by omega) (nxt (decide_eq_false (fun x => ?_)))
          have := x.2.1
          unfold nb at this
          rw [c2'] at this
          cases this
  exact key no 0 N (by omega) (by omega) (fun j hj => by omega)
theorem e_choose {N np no : Nat} {G b : Nat → Int32} {g : Nat → Nat → Nat} (ch : Nat → Int32) (hN : 11 ≤ N) (hnp : np ≤ 10) (hno : no ≤ 10) (hg : ∀ p o, p < np → o < no → g p o ≤ 16000001) (hG : ∀ p o, p < np → o < no → G (10 * p + o) = nI (g p o)) (hb : ∀ r s, r ≤ np → s < 2 ^ no → b (1024 * r + s) = nI (TT g no np r (nb s))) :
    ∃ c', m_M_choose N G b ch (nI np) (nI no) = some c' ∧ ∀ q, q < np → c' q = opI (chO g no np q) := by
  have p1 := q_p2' hno
  have p2 := q_p0' no
  unfold m_M_choose m_M_allOrders
  have a4 : (1 : Int32) <<< (nI no &&& 31) = nI (2 ^ no) := q_sh (by omega)
  have a5 : nI (2 ^ no) - 1 = nI (2 ^ no - 1) := q_pr p2
  rw [a4, a5, Option.bind_some]
  obtain ⟨s', e, h1, h2, h3⟩ := lpU (fun n i (s : Nat × (Nat → Int32)) => L_M_choose_7 N G b (nI np) (nI no) (fun y1a y2a m_chosena => some m_chosena) n (nI s.1) (nI i) s.2) (fun s => some s.2)
    (fun i s => s.1 < 2 ^ no ∧ (∀ k, k < no → nb s.1 k = chS g no np i k) ∧ ∀ q, q < i → s.2 q = opI (chO g no np q)) np
    (fun n s _ => by
      simp only [L_M_choose_7]
      simp (disch := omega) only [q_lit, q_m1, q_m1', nI_add, pk_mul, pk_sub, q_sh, q_b1, q_b0, nI_leI, nI_ltI, nI_eq, nI_clamp, q_nle, q_le, q_nlt, q_lt, q_mlt, q_mle, q_ltm, q_lem, q_eqm, q_meq, Nat.not_lt_zero, or_false, false_or, or_true, true_or, and_true, true_and, false_and, and_false, if_true, if_false, ↓reduceIte, Option.bind_some, not_true, not_false_eq_true])
    (fun n i s hi ⟨c1, c2, c3⟩ => by
      have el := e_lowest (N := N) (b := b) hN hnp hno hg hG hb hi c1
      rw [lowP_congr (ckB_congr c2)] at el
      have nx : ∀ v, (∀ q, q < i → s.2 q = opI (chO g no np q)) → v = opI (chO g no np i) → ∀ q, q < i + 1 → upd s.2 i v q = opI (chO g no np q) := fun v c3 hv q hq => by
        by_cases x : q = i
        · subst x; rw [pk_us]; exact hv
        · rw [pk_un x]; exact c3 q (by omega)
      cases hc : chO g no np i with
      | none =>
        have hc' := hc
        unfold chO at hc'
        rw [hc'] at el
        refine ⟨(s.1, upd s.2 i mI), ?_, c1, by rw [chS_n hc]; exact c2, nx _ c3 (by rw [hc]; rfl)⟩
        simp only [L_M_choose_7, el, opI]
        simp (disch := omega) only [q_lit, q_m1, q_m1', nI_add, pk_mul, pk_sub, q_sh, q_b1, q_b0, nI_leI, nI_ltI, nI_eq, nI_clamp, q_nle, q_le, q_nlt, q_lt, q_mlt, q_mle, q_ltm, q_lem, q_eqm, q_meq, Nat.not_lt_zero, or_false, false_or, or_true, true_or, and_true, true_and, false_and, and_false, if_true, if_false, ↓reduceIte, Option.bind_some, not_true, not_false_eq_true, pk_us]
      | some o =>
        have hc' := hc
        unfold chO at hc'
        rw [hc'] at el
        obtain ⟨o1, _, o3, _⟩ := chO_s hc
        have hbit : s.1.testBit o = true := by
          have := c2 o o1
          rw [o3] at this
          unfold nb at this
          simpa using this
        have d1 := Nat.ge_two_pow_of_testBit hbit
        have d0 := q_p0' o
        refine ⟨(s.1 - 2 ^ o, upd s.2 i (nI o)), ?_, (show s.1 - 2 ^ o < 2 ^ no by omega), fun k hk => ?_, nx _ c3 (by rw [hc]; rfl)⟩
        · simp only [L_M_choose_7, el, opI]
          simp (disch := omega) only [q_lit, q_m1, q_m1', nI_add, pk_mul, pk_sub, q_sh, q_b1, q_b0, nI_leI, nI_ltI, nI_eq, nI_clamp, q_nle, q_le, q_nlt, q_lt, q_mlt, q_mle, q_ltm, q_lem, q_eqm, q_meq, Nat.not_lt_zero, or_false, false_or, or_true, true_or, and_true, true_and, false_and, and_false, if_true, if_false, ↓reduceIte, Option.bind_some, not_true, not_false_eq_true, pk_us]
        · rw [chS_s hc]
          have e3 : st (nb s.1) o = nb (s.1 - 2 ^ o) := st_sub (by omega) (by omega) hbit
          show nb (s.1 - 2 ^ o) k = _
          rw [← e3]
          unfold st
          rw [c2 k hk]) N 0 (2 ^ no - 1, ch) (by omega) (by omega) ⟨(show 2 ^ no - 1 < 2 ^ no by omega), fun k hk => by
        show nb (2 ^ no - 1) k = false
        unfold nb
        rw [Nat.testBit_two_pow_sub_one, decide_eq_true hk]; rfl, fun q hq => by omega⟩
  exact ⟨s'.2, e, h3⟩
