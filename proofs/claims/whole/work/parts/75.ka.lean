/-! Own rows: the law's cases of piece, order, worth, rules, fits, net. -/
theorem e_wi (x a b : Int32) : m_S_isWithin x a b = m_D_in x a b := rfl
theorem e_in {a b : Nat} (ha : a < 2 ^ 31) (hb : b < 2 ^ 31) (x : Int32) : (∃ k, a ≤ k ∧ k ≤ b ∧ x = nI k ∧ m_D_in x (nI a) (nI b) = some (nI 1)) ∨ m_D_in x (nI a) (nI b) = some (nI 0) := by
  unfold m_D_in
  by_cases h1 : x < nI a
  · exact Or.inr (by rw [if_pos h1]; rfl)
  · by_cases h2 : nI b < x
    · exact Or.inr (by rw [if_neg h1, if_pos h2]; rfl)
    · have h3 : ¬ x < 0 := fun q => h1 (Int32.lt_iff_toInt_lt.mpr (by
        have := Int32.lt_iff_toInt_lt.mp q
        rw [nI_toInt ha]
        have z : (0 : Int32).toInt = 0 := by decide
        omega))
      obtain ⟨j, hj, rfl⟩ := nI_of h3
      refine Or.inl ⟨j, ?_, ?_, rfl, ?_⟩
      · rw [nI_ltI hj ha] at h1; omega
      · rw [nI_ltI hb hj] at h2; omega
      · rw [if_neg h1, if_neg h2]; rfl
theorem B_add {n k : Nat} {t w l g d : Nat → Int32} {x1 x2 x3 x4 : Int32} (h : I_B n (nI n) (nI n) t w l g d) (hn : n < 10) (h3 : x3 = nI k) (hk : k ≤ 1000) :
    I_B (n + 1) (nI (n + 1)) (nI (n + 1)) (upd t n x1) (upd w n x2) (upd l n x3) (upd g n x4) (upd (upd (upd (upd d (4 * n) x1) (4 * n + 1) x2) (4 * n + 2) x3) (4 * n + 3) x4) := by
  obtain ⟨_, _, _, hA⟩ := h
  refine ⟨by omega, rfl, rfl, fun i hi => ?_⟩
  by_cases e : i = n
  · subst e
    refine ⟨?_, ?_, ?_, ?_, k, hk, ?_⟩
    · rw [pk_un (by omega), pk_un (by omega), pk_un (by omega), pk_us, pk_us]
    · rw [pk_un (by omega), pk_un (by omega), pk_us, pk_us]
    · rw [pk_un (by omega), pk_us, pk_us]
    · rw [pk_us, pk_us]
    · rw [pk_us, h3]
  · obtain ⟨a1, a2, a3, a4, a5⟩ := hA i (by omega)
    refine ⟨?_, ?_, ?_, ?_, ?_⟩
    · rw [pk_un (by omega), pk_un (by omega), pk_un (by omega), pk_un (by omega), pk_un e, a1]
    · rw [pk_un (by omega), pk_un (by omega), pk_un (by omega), pk_un (by omega), pk_un e, a2]
    · rw [pk_un (by omega), pk_un (by omega), pk_un (by omega), pk_un (by omega), pk_un e, a3]
    · rw [pk_un (by omega), pk_un (by omega), pk_un (by omega), pk_un (by omega), pk_un e, a4]
    · rw [pk_un e]; exact a5
theorem k_0 {np no td uo ho : Nat} {um cf : Nat → Nat} {t w l g d cm dcm up du db hp hl rf rt pd od dpd dod : Nat → Int32} {uu hh mu ran su dsu : Int32} (hno : no ≤ 10) (hB : I_B np (nI np) (nI np) t w l g d) (hU : I_U np no um uo up uu du db) (hH : I_H np no td ho hp hl hh rf rt) (hC : I_C np td cf cm dcm) (hM : I_M np no mu ran su dsu pd od dpd dod) (jo : Nat → Int64) (x1 x2 x3 x4 : Int32) :
    ∃ t' w' l' g' np' cm' mu' jo' thr d' dcm' rf' ran' cf', m_L_case0 t w l g (nI np) cm mu (nI td) (nI td) (nI np) d dcm rf ran jo x1 x2 x3 x4 = some (t', w', l', g', nI np', cm', mu', jo', thr, nI np', d', dcm', rf', ran') ∧ I_B np' (nI np') (nI np') t' w' l' g' d' ∧ I_U np' no um uo up uu du db ∧ I_H np' no td ho hp hl hh rf' rt ∧ I_C np' td cf' cm' dcm' ∧ I_M np' no mu' ran' su dsu pd od dpd dod := by
  have hnp := hB.1
  unfold m_L_case0 m_L_piece m_S_piece m_S_refuseBoard m_D_piece m_D_areSizes m_B_isFull m_M_outdate m_B_add
  rcases e_in (a := 1) (b := 1000) (by omega) (by omega) x1 with ⟨k1, _, _, _, i1⟩ | i1
  · rcases e_in (a := 1) (b := 1000) (by omega) (by omega) x2 with ⟨k2, _, _, _, i2⟩ | i2
    · rcases e_in (a := 1) (b := 1000) (by omega) (by omega) x3 with ⟨k3, _, hk3, hx3, i3⟩ | i3
      · rcases e_in (a := 0) (b := 7) (by omega) (by omega) x4 with ⟨k4, _, _, _, i4⟩ | i4
        · by_cases hf : np < 10
          · refine ⟨upd t np x1, upd w np x2, upd l np x3, upd g np x4, np + 1, upd cm np (nI td), nI 0, vp_updL jo 0 (lN np), nI 0, upd (upd (upd (upd d (4 * np) x1) (4 * np + 1) x2) (4 * np + 2) x3) (4 * np + 3) x4, upd dcm np (nI td), upd rf np mI, nI 0, fun i => if i = np then td else cf i, ?_, B_add hB hf hx3 hk3, ?_, ?_, ?_, ?_⟩
            · simp (disch := omega) only [q_lit, q_m1, q_m1', nI_add, pk_mul, pk_sub, q_sh, q_b1, q_b0, nI_leI, nI_ltI, nI_eq, nI_clamp, q_nle, q_le, q_nlt, q_lt, q_mlt, q_mle, q_ltm, q_lem, q_eqm, q_meq, Nat.not_lt_zero, or_false, false_or, or_true, true_or, and_true, true_and, false_and, and_false, if_true, if_false, ↓reduceIte, Option.bind_some, not_true, not_false_eq_true, e_wi, i1, i2, i3, i4, tk, tc, m_D_goes, m_D_thrown, Nat.one_ne_zero, Nat.reduceEqDiff, nI_l, pk_uLs, q_ceq, Nat.add_sub_cancel]
            · obtain ⟨u1, u2, u3, u4, u5⟩ := hU
              refine ⟨u1, u2, u3, fun q q1 q2 => u4 q (by omega) q2, fun o ho1 => ?_⟩
              rcases u5 o ho1 with z | ⟨q, q1, q2⟩
              · exact Or.inl z
              · exact Or.inr ⟨q, by omega, q2⟩
            · obtain ⟨g1, g2, g3, g4, g5, g6, g7⟩ := hH
              refine ⟨g1, g2, fun q hq => ?_, fun q q1 q2 => g4 q (by omega) q2, g5, g6, fun o ho1 => ?_⟩
              · by_cases e : q = np
                · subst e
                  rw [g4 q (Nat.le_refl _) hf, pk_us]
                  split <;> rfl
                · rw [pk_un e]; exact g3 q (by omega)
              · rw [g7 o ho1]
                constructor
                · rintro ⟨q, q1, q2⟩; exact ⟨q, by omega, q2⟩
                · rintro ⟨q, q1, q2⟩
                  refine ⟨q, ?_, q2⟩
                  by_cases e : q = np
                  · subst e
                    rw [g4 q (Nat.le_refl _) hf, q_meq (by omega)] at q2
                    exact q2.elim
                  · omega
            · obtain ⟨c1, c2⟩ := hC
              refine ⟨fun i hi => ?_, fun i j hij hj => ?_⟩
              · by_cases e : i = np
                · subst e
                  simp only [if_true, ↓reduceIte]
                  exact ⟨pk_us, pk_us, Nat.le_refl _⟩
                · simp only [if_neg e]
                  rw [pk_un e, pk_un e]
                  exact c1 i (by omega)
              · by_cases e : j = np
                · by_cases e2 : i = np
                  · simp only [if_pos e, if_pos e2]; exact Nat.le_refl _
                  · simp only [if_pos e, if_neg e2]; exact (c1 i (by omega)).2.2
                · simp only [if_neg e, if_neg (show ¬ i = np by omega)]
                  exact c2 i j hij (by omega)
            · exact ⟨hM.1, Or.inl ⟨rfl, rfl⟩⟩
          · obtain rfl : np = 10 := by omega
            refine ⟨t, w, l, g, 10, cm, mu, jo, nI 2, d, dcm, rf, ran, cf, ?_, hB, hU, hH, hC, hM⟩
            simp (disch := omega) only [q_lit, q_m1, q_m1', nI_add, pk_mul, pk_sub, q_sh, q_b1, q_b0, nI_leI, nI_ltI, nI_eq, nI_clamp, q_nle, q_le, q_nlt, q_lt, q_mlt, q_mle, q_ltm, q_lem, q_eqm, q_meq, Nat.not_lt_zero, or_false, false_or, or_true, true_or, and_true, true_and, false_and, and_false, if_true, if_false, ↓reduceIte, Option.bind_some, not_true, not_false_eq_true, e_wi, i1, i2, i3, i4, tk, tc, m_D_goes, m_D_thrown, Nat.one_ne_zero, Nat.reduceEqDiff]
        · refine ⟨t, w, l, g, np, cm, mu, jo, nI 1, d, dcm, rf, ran, cf, ?_, hB, hU, hH, hC, hM⟩
          by_cases hf : np < 10
          · simp (disch := omega) only [q_lit, q_m1, q_m1', nI_add, pk_mul, pk_sub, q_sh, q_b1, q_b0, nI_leI, nI_ltI, nI_eq, nI_clamp, q_nle, q_le, q_nlt, q_lt, q_mlt, q_mle, q_ltm, q_lem, q_eqm, q_meq, Nat.not_lt_zero, or_false, false_or, or_true, true_or, and_true, true_and, false_and, and_false, if_true, if_false, ↓reduceIte, Option.bind_some, not_true, not_false_eq_true, e_wi, i1, i2, i3, i4, tk, tc, m_D_goes, m_D_thrown, Nat.one_ne_zero, Nat.reduceEqDiff]
          · simp (disch := omega) only [q_lit, q_m1, q_m1', nI_add, pk_mul, pk_sub, q_sh, q_b1, q_b0, nI_leI, nI_ltI, nI_eq, nI_clamp, q_nle, q_le, q_nlt, q_lt, q_mlt, q_mle, q_ltm, q_lem, q_eqm, q_meq, Nat.not_lt_zero, or_false, false_or, or_true, true_or, and_true, true_and, false_and, and_false, if_true, if_false, ↓reduceIte, Option.bind_some, not_true, not_false_eq_true, e_wi, i1, i2, i3, i4, tk, tc, m_D_goes, m_D_thrown, Nat.one_ne_zero, Nat.reduceEqDiff]
      · refine ⟨t, w, l, g, np, cm, mu, jo, nI 1, d, dcm, rf, ran, cf, ?_, hB, hU, hH, hC, hM⟩
        by_cases hf : np < 10
        · simp (disch := omega) only [q_lit, q_m1, q_m1', nI_add, pk_mul, pk_sub, q_sh, q_b1, q_b0, nI_leI, nI_ltI, nI_eq, nI_clamp, q_nle, q_le, q_nlt, q_lt, q_mlt, q_mle, q_ltm, q_lem, q_eqm, q_meq, Nat.not_lt_zero, or_false, false_or, or_true, true_or, and_true, true_and, false_and, and_false, if_true, if_false, ↓reduceIte, Option.bind_some, not_true, not_false_eq_true, e_wi, i1, i2, i3, tk, tc, m_D_goes, m_D_thrown, Nat.one_ne_zero, Nat.reduceEqDiff]
        · simp (disch := omega) only [q_lit, q_m1, q_m1', nI_add, pk_mul, pk_sub, q_sh, q_b1, q_b0, nI_leI, nI_ltI, nI_eq, nI_clamp, q_nle, q_le, q_nlt, q_lt, q_mlt, q_mle, q_ltm, q_lem, q_eqm, q_meq, Nat.not_lt_zero, or_false, false_or, or_true, true_or, and_true, true_and, false_and, and_false, if_true, if_false, ↓reduceIte, Option.bind_some, not_true, not_false_eq_true, e_wi, i1, i2, i3, tk, tc, m_D_goes, m_D_thrown, Nat.one_ne_zero, Nat.reduceEqDiff]
    · refine ⟨t, w, l, g, np, cm, mu, jo, nI 1, d, dcm, rf, ran, cf, ?_, hB, hU, hH, hC, hM⟩
      by_cases hf : np < 10
      · simp (disch := omega) only [q_lit, q_m1, q_m1', nI_add, pk_mul, pk_sub, q_sh, q_b1, q_b0, nI_leI, nI_ltI, nI_eq, nI_clamp, q_nle, q_le, q_nlt, q_lt, q_mlt, q_mle, q_ltm, q_lem, q_eqm, q_meq, Nat.not_lt_zero, or_false, false_or, or_true, true_or, and_true, true_and, false_and, and_false, if_true, if_false, ↓reduceIte, Option.bind_some, not_true, not_false_eq_true, e_wi, i1, i2, tk, tc, m_D_goes, m_D_thrown, Nat.one_ne_zero, Nat.reduceEqDiff]
      · simp (disch := omega) only [q_lit, q_m1, q_m1', nI_add, pk_mul, pk_sub, q_sh, q_b1, q_b0, nI_leI, nI_ltI, nI_eq, nI_clamp, q_nle, q_le, q_nlt, q_lt, q_mlt, q_mle, q_ltm, q_lem, q_eqm, q_meq, Nat.not_lt_zero, or_false, false_or, or_true, true_or, and_true, true_and, false_and, and_false, if_true, if_false, ↓reduceIte, Option.bind_some, not_true, not_false_eq_true, e_wi, i1, i2, tk, tc, m_D_goes, m_D_thrown, Nat.one_ne_zero, Nat.reduceEqDiff]
  · refine ⟨t, w, l, g, np, cm, mu, jo, nI 1, d, dcm, rf, ran, cf, ?_, hB, hU, hH, hC, hM⟩
    by_cases hf : np < 10
    · simp (disch := omega) only [q_lit, q_m1, q_m1', nI_add, pk_mul, pk_sub, q_sh, q_b1, q_b0, nI_leI, nI_ltI, nI_eq, nI_clamp, q_nle, q_le, q_nlt, q_lt, q_mlt, q_mle, q_ltm, q_lem, q_eqm, q_meq, Nat.not_lt_zero, or_false, false_or, or_true, true_or, and_true, true_and, false_and, and_false, if_true, if_false, ↓reduceIte, Option.bind_some, not_true, not_false_eq_true, e_wi, i1, tk, tc, m_D_goes, m_D_thrown, Nat.one_ne_zero, Nat.reduceEqDiff]
    · simp (disch := omega) only [q_lit, q_m1, q_m1', nI_add, pk_mul, pk_sub, q_sh, q_b1, q_b0, nI_leI, nI_ltI, nI_eq, nI_clamp, q_nle, q_le, q_nlt, q_lt, q_mlt, q_mle, q_ltm, q_lem, q_eqm, q_meq, Nat.not_lt_zero, or_false, false_or, or_true, true_or, and_true, true_and, false_and, and_false, if_true, if_false, ↓reduceIte, Option.bind_some, not_true, not_false_eq_true, e_wi, i1, tk, tc, m_D_goes, m_D_thrown, Nat.one_ne_zero, Nat.reduceEqDiff]
