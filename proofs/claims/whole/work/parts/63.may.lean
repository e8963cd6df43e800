/-! Own rows: which piece may be paired with which order. -/
theorem e_resv {td : Nat} {rf rt hp : Nat → Int32} {p : Nat} (h10 : p < 10) (h : hp p = if rt p < nI td then mI else rf p) : m_D_reservation (nI td) rf rt (nI p) = some (hp p) := by
  unfold m_D_reservation
  simp (disch := omega) only [q_lit, q_m1, q_m1', nI_add, pk_mul, pk_sub, q_sh, q_b1, q_b0, nI_leI, nI_ltI, nI_eq, nI_clamp, q_nle, q_le, q_nlt, q_lt, q_mlt, q_mle, q_ltm, q_lem, q_eqm, q_meq, Nat.not_lt_zero, or_false, false_or, or_true, true_or, and_true, true_and, false_and, and_false, if_true, if_false, ↓reduceIte, Option.bind_some, not_true, not_false_eq_true]
  rw [h]
  by_cases h1 : rt p < nI td <;> simp [h1]
theorem e_holder {N np td o : Nat} {rf rt hp : Nat → Int32} (hn : np ≤ 10) (h : ∀ p, p < np → hp p = if rt p < nI td then mI else rf p) (hN : 10 < N) :
    (∃ p, p < np ∧ hp p = nI o ∧ (∀ q, q < p → hp q ≠ nI o) ∧ m_D_holder N (nI td) (nI np) rf rt (nI o) = some (nI p)) ∨ ((∀ p, p < np → hp p ≠ nI o) ∧ m_D_holder N (nI td) (nI np) rf rt (nI o) = some mI) := by
  unfold m_D_holder
  have key : ∀ m i n, i + m = np → m < n → (∀ q, q < i → hp q ≠ nI o) → (∃ p, p < np ∧ hp p = nI o ∧ (∀ q, q < p → hp q ≠ nI o) ∧ L_D_holder_2 N (nI td) (nI np) rf rt (fun y1a y2a => some (-1)) n (nI o) (nI i) = some (nI p)) ∨ ((∀ p, p < np → hp p ≠ nI o) ∧ L_D_holder_2 N (nI td) (nI np) rf rt (fun y1a y2a => some (-1)) n (nI o) (nI i) = some mI) := by
    intro m
    induction m with
    | zero =>
      intro i n h1 h2 h3
      obtain ⟨n, rfl⟩ : ∃ k, n = k + 1 := ⟨n - 1, by omega⟩
      obtain rfl : i = np := by omega
      refine Or.inr ⟨h3, ?_⟩
      unfold L_D_holder_2
      simp (disch := omega) only [q_lit, q_m1, q_m1', nI_add, pk_mul, pk_sub, q_sh, q_b1, q_b0, nI_leI, nI_ltI, nI_eq, nI_clamp, q_nle, q_le, q_nlt, q_lt, q_mlt, q_mle, q_ltm, q_lem, q_eqm, q_meq, Nat.not_lt_zero, or_false, false_or, or_true, true_or, and_true, true_and, false_and, and_false, if_true, if_false, ↓reduceIte, Option.bind_some, not_true, not_false_eq_true]
    | succ m ih =>
      intro i n h1 h2 h3
      obtain ⟨n, rfl⟩ : ∃ k, n = k + 1 := ⟨n - 1, by omega⟩
      unfold L_D_holder_2
      simp (disch := omega) only [q_lit, q_m1, q_m1', nI_add, pk_mul, pk_sub, q_sh, q_b1, q_b0, nI_leI, nI_ltI, nI_eq, nI_clamp, q_nle, q_le, q_nlt, q_lt, q_mlt, q_mle, q_ltm, q_lem, q_eqm, q_meq, Nat.not_lt_zero, or_false, false_or, or_true, true_or, and_true, true_and, false_and, and_false, if_true, if_false, ↓reduceIte, Option.bind_some, not_true, not_false_eq_true, e_resv (p := i) (by omega) (h i (by omega))]
      by_cases h4 : hp i = nI o
      · exact Or.inl ⟨i, by omega, h4, h3, by rw [if_pos h4]⟩
      · simp only [if_neg h4]
        refine ih (i + 1) n (by omega) (by omega) (fun q hq => ?_)
        by_cases e : q = i
        · subst e; exact h4
        · exact h3 q (by omega)
  exact key np 0 N (by omega) (by omega) (fun q hq => by omega)
def mayB (um : Nat → Nat) (uo ho : Nat) (hp : Nat → Int32) (fit : Nat → Nat → Bool) (p o : Nat) : Bool :=
  decide (um p = 0) && !uo.testBit o && (decide (hp p = nI o) || decide (hp p = mI) && !ho.testBit o) && fit p o
theorem q_pw {s k n : Nat} (h : s < 2 ^ k) (hk : k ≤ 10) (hn : 1024 ≤ n) : s < n := by have := q_p2' hk; omega
theorem e_pused {um : Nat → Nat} {up : Nat → Int32} {p : Nat} (hp : p < 10) (h : up p = nI (um p)) (h2 : um p < 1024) : m_U_isPieceUsed up (nI p) = some (bI (decide (um p ≠ 0))) := by
  unfold m_U_isPieceUsed
  simp (disch := omega) only [q_lit, q_m1, q_m1', nI_add, pk_mul, pk_sub, q_sh, q_b1, q_b0, nI_leI, nI_ltI, nI_eq, nI_clamp, q_nle, q_le, q_nlt, q_lt, q_mlt, q_mle, q_ltm, q_lem, q_eqm, q_meq, Nat.not_lt_zero, or_false, false_or, or_true, true_or, and_true, true_and, false_and, and_false, if_true, if_false, ↓reduceIte, Option.bind_some, not_true, not_false_eq_true, h]
  by_cases e : um p = 0 <;> simp [e, bI]
theorem e_oused {uo o : Nat} (h2 : uo < 1024) (ho : o < 10) : m_U_isOrderUsed (nI uo) (nI o) = some (bI (uo.testBit o)) := by
  unfold m_U_isOrderUsed
  simp (disch := omega) only [q_lit, q_m1, q_m1', nI_add, pk_mul, pk_sub, q_sh, q_b1, q_b0, nI_leI, nI_ltI, nI_eq, nI_clamp, q_nle, q_le, q_nlt, q_lt, q_mlt, q_mle, q_ltm, q_lem, q_eqm, q_meq, Nat.not_lt_zero, or_false, false_or, or_true, true_or, and_true, true_and, false_and, and_false, if_true, if_false, ↓reduceIte, Option.bind_some, not_true, not_false_eq_true]
  cases uo.testBit o <;> simp [bI]
theorem e_oheld {uo o : Nat} (h2 : uo < 1024) (ho : o < 10) : m_H_isOrderHeld (nI uo) (nI o) = some (bI (uo.testBit o)) := by
  unfold m_H_isOrderHeld
  simp (disch := omega) only [q_lit, q_m1, q_m1', nI_add, pk_mul, pk_sub, q_sh, q_b1, q_b0, nI_leI, nI_ltI, nI_eq, nI_clamp, q_nle, q_le, q_nlt, q_lt, q_mlt, q_mle, q_ltm, q_lem, q_eqm, q_meq, Nat.not_lt_zero, or_false, false_or, or_true, true_or, and_true, true_and, false_and, and_false, if_true, if_false, ↓reduceIte, Option.bind_some, not_true, not_false_eq_true]
  cases uo.testBit o <;> simp [bI]
theorem e_pheld {hp : Nat → Int32} {p : Nat} (h : p < 10) : m_H_isPieceHeld hp (nI p) = some (bI (decide (hp p ≠ mI))) := by
  unfold m_H_isPieceHeld
  simp (disch := omega) only [q_lit, q_m1, q_m1', nI_add, pk_mul, pk_sub, q_sh, q_b1, q_b0, nI_leI, nI_ltI, nI_eq, nI_clamp, q_nle, q_le, q_nlt, q_lt, q_mlt, q_mle, q_ltm, q_lem, q_eqm, q_meq, Nat.not_lt_zero, or_false, false_or, or_true, true_or, and_true, true_and, false_and, and_false, if_true, if_false, ↓reduceIte, Option.bind_some, not_true, not_false_eq_true]
  by_cases e : hp p = mI <;> simp [e, bI]
theorem e_lets {hp : Nat → Int32} {ho p o : Nat} (h : p < 10) (h2 : ho < 1024) (h3 : o < 10) : m_H_lets hp (nI ho) (nI p) (nI o) = some (bI (decide (hp p = nI o) || decide (hp p = mI) && !ho.testBit o)) := by
  unfold m_H_lets
  rw [e_pheld h, e_oheld h2 h3]
  simp (disch := omega) only [q_lit, q_m1, q_m1', nI_add, pk_mul, pk_sub, q_sh, q_b1, q_b0, nI_leI, nI_ltI, nI_eq, nI_clamp, q_nle, q_le, q_nlt, q_lt, q_mlt, q_mle, q_ltm, q_lem, q_eqm, q_meq, Nat.not_lt_zero, or_false, false_or, or_true, true_or, and_true, true_and, false_and, and_false, if_true, if_false, ↓reduceIte, Option.bind_some, not_true, not_false_eq_true, bI_0]
  by_cases e : hp p = nI o
  · simp [e, bI]
  · by_cases e2 : hp p = mI
    · cases h5 : ho.testBit o <;> simp [e, e2, bI, bI_0, h5]
      · rw [← e2]; simp [e]
    · simp [e, e2, bI]
theorem e_may {np no td uo ho : Nat} {um : Nat → Nat} {up hp hl du db rf rt t w l g t' w' l' g' : Nat → Int32} {uu hh : Int32} {p o : Nat} (hno : no ≤ 10) (hU : I_U np no um uo up uu du db) (hH : I_H np no td ho hp hl hh rf rt) (h1 : p < 10) (h2 : o < no) :
    m_S_mayPair t w l g t' w' l' g' up uu hp hh (nI p) (nI o) = some (bI (mayB um uo ho hp (fitB t w l g t' w' l' g') p o)) := by
  obtain ⟨rfl, u2, u3, _, _⟩ := hU
  obtain ⟨rfl, k2, _, _, _, _, _⟩ := hH
  obtain ⟨v1, v2, _⟩ := u3 p h1
  unfold m_S_mayPair mayB
  rw [e_pused h1 v1 (q_pw v2 hno (by omega)), e_oused (q_pw u2 hno (by omega)) (by omega), e_lets h1 (q_pw k2 hno (by omega)) (by omega), e_suits h1 (by omega)]
  simp only [Option.bind_some, q_lit, bI_0]
  cases h3 : decide (um p = 0) with
  | false => simp at h3; simp [h3, bI]
  | true =>
    simp at h3
    cases h4 : uo.testBit o
    · cases h5 : (decide (hp p = nI o) || decide (hp p = mI) && !ho.testBit o)
      · simp [h3, bI]
      · cases h6 : fitB t w l g t' w' l' g' p o <;> simp [h3, bI]
    · simp [h3, bI]
theorem e_can {N np no td uo ho : Nat} {um : Nat → Nat} {up hp hl du db rf rt t w l g d t' w' l' g' d' : Nat → Int32} {uu hh c dc c' dc' : Int32} {p o : Nat} (hN : 10 < N) (hB : I_B np c dc t w l g d) (hB' : I_B no c' dc' t' w' l' g' d') (hU : I_U np no um uo up uu du db) (hH : I_H np no td ho hp hl hh rf rt) (h1 : p < np) (h2 : o < no) :
    m_D_can N (nI td) (nI np) d d' du db rf rt (nI p) (nI o) = some (bI (mayB um uo ho hp (fitB t w l g t' w' l' g') p o)) := by
  have hnp := hB.1
  have hno := hB'.1
  obtain ⟨_, u2, u3, _, u5⟩ := hU
  obtain ⟨_, k2, k3, _, k5, k6, k7⟩ := hH
  obtain ⟨v1, v2, v3⟩ := u3 p (by omega)
  have hR := e_resv (p := p) (by omega) (k3 p h1)
  unfold m_D_can mayB
  simp (disch := omega) only [q_lit, q_m1, q_m1', nI_add, pk_mul, pk_sub, q_sh, q_b1, q_b0, nI_leI, nI_ltI, nI_eq, nI_clamp, q_nle, q_le, q_nlt, q_lt, q_mlt, q_mle, q_ltm, q_lem, q_eqm, q_meq, Nat.not_lt_zero, or_false, false_or, or_true, true_or, and_true, true_and, false_and, and_false, if_true, if_false, ↓reduceIte, Option.bind_some, not_true, not_false_eq_true, v3, bI_0, e_isFit hB hB' h1 h2, hR]
  by_cases h3 : um p = 0
  · rcases u5 o h2 with ⟨w1, w2, _⟩ | ⟨q, w1, w2, w3, _⟩
    · rw [w2]
      simp (disch := omega) only [q_lit, q_m1, q_m1', nI_add, pk_mul, pk_sub, q_sh, q_b1, q_b0, nI_leI, nI_ltI, nI_eq, nI_clamp, q_nle, q_le, q_nlt, q_lt, q_mlt, q_mle, q_ltm, q_lem, q_eqm, q_meq, Nat.not_lt_zero, or_false, false_or, or_true, true_or, and_true, true_and, false_and, and_false, if_true, if_false, ↓reduceIte, Option.bind_some, not_true, not_false_eq_true, q_lem (k := 0) (by omega), h3, w1]
      cases h4 : fitB t w l g t' w' l' g' p o
      · simp [h3, bI]
      · rcases e_holder (o := o) hnp k3 hN with ⟨q, x1, x2, x3, x4⟩ | ⟨x1, x2⟩
        · rw [x4]
          have x5 : ho.testBit o = true := (k7 o h2).mpr ⟨q, x1, x2⟩
          rcases k5 p (by omega) with y | ⟨o', y1, y2, _⟩
          · have : ¬ q = p := fun e => by
              subst e
              rw [y] at x2
              exact absurd x2 (by rw [q_meq (by omega)]; exact id)
            rw [y]
            simp (disch := omega) only [q_lit, q_m1, q_m1', nI_add, pk_mul, pk_sub, q_sh, q_b1, q_b0, nI_leI, nI_ltI, nI_eq, nI_clamp, q_nle, q_le, q_nlt, q_lt, q_mlt, q_mle, q_ltm, q_lem, q_eqm, q_meq, Nat.not_lt_zero, or_false, false_or, or_true, true_or, and_true, true_and, false_and, and_false, if_true, if_false, ↓reduceIte, Option.bind_some, not_true, not_false_eq_true, x5, this]
            simp [h3, bI]
          · rw [y2]
            by_cases e : o' = o
            · subst e
              have : q = p := by
                refine Classical.byContradiction (fun ne => ?_)
                have := k6 q p (by omega) (by omega) ne (x2.trans y2.symm)
                rw [x2, q_eqm (by omega)] at this
                exact this
              subst this
              simp (disch := omega) only [q_lit, q_m1, q_m1', nI_add, pk_mul, pk_sub, q_sh, q_b1, q_b0, nI_leI, nI_ltI, nI_eq, nI_clamp, q_nle, q_le, q_nlt, q_lt, q_mlt, q_mle, q_ltm, q_lem, q_eqm, q_meq, Nat.not_lt_zero, or_false, false_or, or_true, true_or, and_true, true_and, false_and, and_false, if_true, if_false, ↓reduceIte, Option.bind_some, not_true, not_false_eq_true]
              simp [h3, bI]
            · have e2 : ¬ nI o' = nI o := by rw [nI_eq (by omega) (by omega)]; exact e
              simp (disch := omega) only [q_lit, q_m1, q_m1', nI_add, pk_mul, pk_sub, q_sh, q_b1, q_b0, nI_leI, nI_ltI, nI_eq, nI_clamp, q_nle, q_le, q_nlt, q_lt, q_mlt, q_mle, q_ltm, q_lem, q_eqm, q_meq, Nat.not_lt_zero, or_false, false_or, or_true, true_or, and_true, true_and, false_and, and_false, if_true, if_false, ↓reduceIte, Option.bind_some, not_true, not_false_eq_true, e]
              simp [h3, bI]
        · rw [x2]
          have x5 : ho.testBit o = false := by
            refine Bool.eq_false_iff.mpr (fun q => ?_)
            obtain ⟨p', z1, z2⟩ := (k7 o h2).mp q
            exact x1 p' z1 z2
          rcases k5 p (by omega) with y | ⟨o', y1, y2, _⟩
          · rw [y]
            simp (disch := omega) only [q_lit, q_m1, q_m1', nI_add, pk_mul, pk_sub, q_sh, q_b1, q_b0, nI_leI, nI_ltI, nI_eq, nI_clamp, q_nle, q_le, q_nlt, q_lt, q_mlt, q_mle, q_ltm, q_lem, q_eqm, q_meq, Nat.not_lt_zero, or_false, false_or, or_true, true_or, and_true, true_and, false_and, and_false, if_true, if_false, ↓reduceIte, Option.bind_some, not_true, not_false_eq_true, x5]
            simp [h3, bI]
          · have e : ¬ o' = o := fun e => by subst e; exact x1 p h1 y2
            rw [y2]
            simp (disch := omega) only [q_lit, q_m1, q_m1', nI_add, pk_mul, pk_sub, q_sh, q_b1, q_b0, nI_leI, nI_ltI, nI_eq, nI_clamp, q_nle, q_le, q_nlt, q_lt, q_mlt, q_mle, q_ltm, q_lem, q_eqm, q_meq, Nat.not_lt_zero, or_false, false_or, or_true, true_or, and_true, true_and, false_and, and_false, if_true, if_false, ↓reduceIte, Option.bind_some, not_true, not_false_eq_true, e]
            simp [h3, bI]
    · rw [w3]
      simp (disch := omega) only [q_lit, q_m1, q_m1', nI_add, pk_mul, pk_sub, q_sh, q_b1, q_b0, nI_leI, nI_ltI, nI_eq, nI_clamp, q_nle, q_le, q_nlt, q_lt, q_mlt, q_mle, q_ltm, q_lem, q_eqm, q_meq, Nat.not_lt_zero, or_false, false_or, or_true, true_or, and_true, true_and, false_and, and_false, if_true, if_false, ↓reduceIte, Option.bind_some, not_true, not_false_eq_true, h3, w2]
      simp [bI]
  · simp [h3, bI]
