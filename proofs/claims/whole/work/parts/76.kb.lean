/-! Own rows: the law's cases of order, worth, rules, fits, net, sum. -/
theorem k_1 {np no td uo ho : Nat} {um : Nat → Nat} {t w l g d up du db hp hl rf rt pd od dpd dod : Nat → Int32} {uu hh mu ran su dsu : Int32} (hnp : np ≤ 10) (hB : I_B no (nI no) (nI no) t w l g d) (hU : I_U np no um uo up uu du db) (hH : I_H np no td ho hp hl hh rf rt) (hM : I_M np no mu ran su dsu pd od dpd dod) (jo : Nat → Int64) (x1 x2 x3 x4 : Int32) :
    ∃ t' w' l' g' no' mu' jo' thr d' db' ran', m_L_case1 t w l g (nI no) mu (nI no) d db ran jo x1 x2 x3 x4 = some (t', w', l', g', nI no', mu', jo', thr, nI no', d', db', ran') ∧ I_B no' (nI no') (nI no') t' w' l' g' d' ∧ I_U np no' um uo up uu du db' ∧ I_H np no' td ho hp hl hh rf rt ∧ I_M np no' mu' ran' su dsu pd od dpd dod := by
  have hno := hB.1
  unfold m_L_case1 m_L_order m_S_order m_S_refuseBoard m_D_order m_D_areSizes m_B_isFull m_M_outdate m_B_add
  rcases e_in (a := 1) (b := 1000) (by omega) (by omega) x1 with ⟨k1, _, _, _, i1⟩ | i1
  · rcases e_in (a := 1) (b := 1000) (by omega) (by omega) x2 with ⟨k2, _, _, _, i2⟩ | i2
    · rcases e_in (a := 1) (b := 1000) (by omega) (by omega) x3 with ⟨k3, _, hk3, hx3, i3⟩ | i3
      · rcases e_in (a := 0) (b := 7) (by omega) (by omega) x4 with ⟨k4, _, _, _, i4⟩ | i4
        · by_cases hf : no < 10
          · have hpw : 2 ^ no < 2 ^ (no + 1) := Nat.pow_lt_pow_right (by decide) (by omega)
            refine ⟨upd t no x1, upd w no x2, upd l no x3, upd g no x4, no + 1, nI 0, vp_updL jo 0 (lN no), nI 0, upd (upd (upd (upd d (4 * no) x1) (4 * no + 1) x2) (4 * no + 2) x3) (4 * no + 3) x4, upd db no mI, nI 0, ?_, B_add hB hf hx3 hk3, ?_, ?_, ?_⟩
            · simp (disch := omega) only [q_lit, q_m1, q_m1', nI_add, pk_mul, pk_sub, q_sh, q_b1, q_b0, nI_leI, nI_ltI, nI_eq, nI_clamp, q_nle, q_le, q_nlt, q_lt, q_mlt, q_mle, q_ltm, q_lem, q_eqm, q_meq, Nat.not_lt_zero, or_false, false_or, or_true, true_or, and_true, true_and, false_and, and_false, if_true, if_false, ↓reduceIte, Option.bind_some, not_true, not_false_eq_true, e_wi, i1, i2, i3, i4, tk, tc, m_D_goes, m_D_thrown, Nat.one_ne_zero, Nat.reduceEqDiff, nI_l, pk_uLs, q_ceq, Nat.add_sub_cancel]
            · obtain ⟨u1, u2, u3, u4, u5⟩ := hU
              refine ⟨u1, by omega, fun q hq => ?_, u4, fun o ho1 => ?_⟩
              · obtain ⟨v1, v2, v3⟩ := u3 q hq
                exact ⟨v1, by omega, v3⟩
              · by_cases e : o = no
                · subst e
                  exact Or.inl ⟨Nat.testBit_lt_two_pow u2, pk_us, fun q hq => Nat.testBit_lt_two_pow (u3 q hq).2.1⟩
                · rw [pk_un e]
                  exact u5 o (by omega)
            · obtain ⟨g1, g2, g3, g4, g5, g6, g7⟩ := hH
              refine ⟨g1, by omega, g3, g4, fun q hq => ?_, g6, fun o ho1 => ?_⟩
              · rcases g5 q hq with y | ⟨o', y1, y2, y3⟩
                · exact Or.inl y
                · exact Or.inr ⟨o', by omega, y2, y3⟩
              · by_cases e : o = no
                · subst e
                  constructor
                  · intro q
                    rw [Nat.testBit_lt_two_pow g2] at q
                    cases q
                  · rintro ⟨q, q1, q2⟩
                    exfalso
                    rcases g5 q (by omega) with y | ⟨o', y1, y2, y3⟩
                    · rw [y, q_meq (by omega)] at q2; exact q2
                    · rw [y2, nI_eq (by omega) (by omega)] at q2; omega
                · exact g7 o (by omega)
            · exact ⟨hM.1, Or.inl ⟨rfl, rfl⟩⟩
          · obtain rfl : no = 10 := by omega
            refine ⟨t, w, l, g, 10, mu, jo, nI 2, d, db, ran, ?_, hB, hU, hH, hM⟩
            simp (disch := omega) only [q_lit, q_m1, q_m1', nI_add, pk_mul, pk_sub, q_sh, q_b1, q_b0, nI_leI, nI_ltI, nI_eq, nI_clamp, q_nle, q_le, q_nlt, q_lt, q_mlt, q_mle, q_ltm, q_lem, q_eqm, q_meq, Nat.not_lt_zero, or_false, false_or, or_true, true_or, and_true, true_and, false_and, and_false, if_true, if_false, ↓reduceIte, Option.bind_some, not_true, not_false_eq_true, e_wi, i1, i2, i3, i4, tk, tc, m_D_goes, m_D_thrown, Nat.one_ne_zero, Nat.reduceEqDiff]
        · refine ⟨t, w, l, g, no, mu, jo, nI 1, d, db, ran, ?_, hB, hU, hH, hM⟩
          by_cases hf : no < 10
          · simp (disch := omega) only [q_lit, q_m1, q_m1', nI_add, pk_mul, pk_sub, q_sh, q_b1, q_b0, nI_leI, nI_ltI, nI_eq, nI_clamp, q_nle, q_le, q_nlt, q_lt, q_mlt, q_mle, q_ltm, q_lem, q_eqm, q_meq, Nat.not_lt_zero, or_false, false_or, or_true, true_or, and_true, true_and, false_and, and_false, if_true, if_false, ↓reduceIte, Option.bind_some, not_true, not_false_eq_true, e_wi, i1, i2, i3, i4, tk, tc, m_D_goes, m_D_thrown, Nat.one_ne_zero, Nat.reduceEqDiff]
          · simp (disch := omega) only [q_lit, q_m1, q_m1', nI_add, pk_mul, pk_sub, q_sh, q_b1, q_b0, nI_leI, nI_ltI, nI_eq, nI_clamp, q_nle, q_le, q_nlt, q_lt, q_mlt, q_mle, q_ltm, q_lem, q_eqm, q_meq, Nat.not_lt_zero, or_false, false_or, or_true, true_or, and_true, true_and, false_and, and_false, if_true, if_false, ↓reduceIte, Option.bind_some, not_true, not_false_eq_true, e_wi, i1, i2, i3, i4, tk, tc, m_D_goes, m_D_thrown, Nat.one_ne_zero, Nat.reduceEqDiff]
      · refine ⟨t, w, l, g, no, mu, jo, nI 1, d, db, ran, ?_, hB, hU, hH, hM⟩
        by_cases hf : no < 10
        · simp (disch := omega) only [q_lit, q_m1, q_m1', nI_add, pk_mul, pk_sub, q_sh, q_b1, q_b0, nI_leI, nI_ltI, nI_eq, nI_clamp, q_nle, q_le, q_nlt, q_lt, q_mlt, q_mle, q_ltm, q_lem, q_eqm, q_meq, Nat.not_lt_zero, or_false, false_or, or_true, true_or, and_true, true_and, false_and, and_false, if_true, if_false, ↓reduceIte, Option.bind_some, not_true, not_false_eq_true, e_wi, i1, i2, i3, tk, tc, m_D_goes, m_D_thrown, Nat.one_ne_zero, Nat.reduceEqDiff]
        · simp (disch := omega) only [q_lit, q_m1, q_m1', nI_add, pk_mul, pk_sub, q_sh, q_b1, q_b0, nI_leI, nI_ltI, nI_eq, nI_clamp, q_nle, q_le, q_nlt, q_lt, q_mlt, q_mle, q_ltm, q_lem, q_eqm, q_meq, Nat.not_lt_zero, or_false, false_or, or_true, true_or, and_true, true_and, false_and, and_false, if_true, if_false, ↓reduceIte, Option.bind_some, not_true, not_false_eq_true, e_wi, i1, i2, i3, tk, tc, m_D_goes, m_D_thrown, Nat.one_ne_zero, Nat.reduceEqDiff]
    · refine ⟨t, w, l, g, no, mu, jo, nI 1, d, db, ran, ?_, hB, hU, hH, hM⟩
      by_cases hf : no < 10
      · simp (disch := omega) only [q_lit, q_m1, q_m1', nI_add, pk_mul, pk_sub, q_sh, q_b1, q_b0, nI_leI, nI_ltI, nI_eq, nI_clamp, q_nle, q_le, q_nlt, q_lt, q_mlt, q_mle, q_ltm, q_lem, q_eqm, q_meq, Nat.not_lt_zero, or_false, false_or, or_true, true_or, and_true, true_and, false_and, and_false, if_true, if_false, ↓reduceIte, Option.bind_some, not_true, not_false_eq_true, e_wi, i1, i2, tk, tc, m_D_goes, m_D_thrown, Nat.one_ne_zero, Nat.reduceEqDiff]
      · simp (disch := omega) only [q_lit, q_m1, q_m1', nI_add, pk_mul, pk_sub, q_sh, q_b1, q_b0, nI_leI, nI_ltI, nI_eq, nI_clamp, q_nle, q_le, q_nlt, q_lt, q_mlt, q_mle, q_ltm, q_lem, q_eqm, q_meq, Nat.not_lt_zero, or_false, false_or, or_true, true_or, and_true, true_and, false_and, and_false, if_true, if_false, ↓reduceIte, Option.bind_some, not_true, not_false_eq_true, e_wi, i1, i2, tk, tc, m_D_goes, m_D_thrown, Nat.one_ne_zero, Nat.reduceEqDiff]
  · refine ⟨t, w, l, g, no, mu, jo, nI 1, d, db, ran, ?_, hB, hU, hH, hM⟩
    by_cases hf : no < 10
    · simp (disch := omega) only [q_lit, q_m1, q_m1', nI_add, pk_mul, pk_sub, q_sh, q_b1, q_b0, nI_leI, nI_ltI, nI_eq, nI_clamp, q_nle, q_le, q_nlt, q_lt, q_mlt, q_mle, q_ltm, q_lem, q_eqm, q_meq, Nat.not_lt_zero, or_false, false_or, or_true, true_or, and_true, true_and, false_and, and_false, if_true, if_false, ↓reduceIte, Option.bind_some, not_true, not_false_eq_true, e_wi, i1, tk, tc, m_D_goes, m_D_thrown, Nat.one_ne_zero, Nat.reduceEqDiff]
    · simp (disch := omega) only [q_lit, q_m1, q_m1', nI_add, pk_mul, pk_sub, q_sh, q_b1, q_b0, nI_leI, nI_ltI, nI_eq, nI_clamp, q_nle, q_le, q_nlt, q_lt, q_mlt, q_mle, q_ltm, q_lem, q_eqm, q_meq, Nat.not_lt_zero, or_false, false_or, or_true, true_or, and_true, true_and, false_and, and_false, if_true, if_false, ↓reduceIte, Option.bind_some, not_true, not_false_eq_true, e_wi, i1, tk, tc, m_D_goes, m_D_thrown, Nat.one_ne_zero, Nat.reduceEqDiff]
theorem k_2 {np no : Nat} {wf : Nat → Nat} {t w l g d t' w' l' g' d' tl dw : Nat → Int32} (hB : I_B np (nI np) (nI np) t w l g d) (hB' : I_B no (nI no) (nI no) t' w' l' g' d') (hW : I_W wf tl dw) (x1 x2 x3 : Int32) :
    ∃ tl' thr dw' wf', m_L_case2 t w l g (nI np) t' w' l' g' (nI no) tl (nI np) (nI no) d d' dw x1 x2 x3 = some (tl', thr, dw') ∧ I_W wf' tl' dw' := by
  have hnp := hB.1
  have hno := hB'.1
  unfold m_L_case2 m_L_worth m_S_worth m_S_refuseUnknownPair m_S_refuseUnknownPiece m_S_refuseMisfit m_D_worth m_S_pairIndex
  rcases e_isP hnp x1 with ⟨p, hp1, rfl, ed, ec⟩ | ⟨ed, ec⟩
  · rcases e_isO hno x2 with ⟨o, ho1, rfl, fd, fc⟩ | ⟨fd, fc⟩
    · have es := e_suits (t := t) (w := w) (l := l) (g := g) (t' := t') (w' := w') (l' := l') (g' := g') (p := p) (o := o) (by omega) (by omega)
      have ef := e_isFit hB hB' hp1 ho1
      rcases e_in (a := 0) (b := 1000000) (by omega) (by omega) x3 with ⟨k, _, hk, rfl, i1⟩ | i1
      · cases hf : fitB t w l g t' w' l' g' p o with
        | true =>
          refine ⟨upd tl (10 * p + o) (nI k), nI 0, upd dw (10 * p + o) (nI k), fun i => if i = 10 * p + o then k else wf i, ?_, fun i hi => ?_⟩
          · have ix : p * 10 + o = 10 * p + o := by omega
            simp (disch := omega) only [q_lit, q_m1, q_m1', nI_add, pk_mul, pk_sub, q_sh, q_b1, q_b0, nI_leI, nI_ltI, nI_eq, nI_clamp, q_nle, q_le, q_nlt, q_lt, q_mlt, q_mle, q_ltm, q_lem, q_eqm, q_meq, Nat.not_lt_zero, or_false, false_or, or_true, true_or, and_true, true_and, false_and, and_false, if_true, if_false, ↓reduceIte, Option.bind_some, not_true, not_false_eq_true, e_wi, ed, ec, fd, fc, i1, es, ef, hf, bI_0, Bool.true_eq_false, tk, tc, m_D_goes, m_D_thrown, Nat.one_ne_zero, Nat.reduceEqDiff, ix, bI_t]
          · by_cases e : i = 10 * p + o
            · subst e
              simp only [if_true, ↓reduceIte]
              exact ⟨pk_us, pk_us, hk⟩
            · simp only [if_neg e]
              rw [pk_un e, pk_un e]
              exact hW i hi
        | false =>
          refine ⟨tl, nI 3, dw, wf, ?_, hW⟩
          simp (disch := omega) only [q_lit, q_m1, q_m1', nI_add, pk_mul, pk_sub, q_sh, q_b1, q_b0, nI_leI, nI_ltI, nI_eq, nI_clamp, q_nle, q_le, q_nlt, q_lt, q_mlt, q_mle, q_ltm, q_lem, q_eqm, q_meq, Nat.not_lt_zero, or_false, false_or, or_true, true_or, and_true, true_and, false_and, and_false, if_true, if_false, ↓reduceIte, Option.bind_some, not_true, not_false_eq_true, e_wi, ed, ec, fd, fc, i1, es, ef, hf, bI_0, Bool.true_eq_false, tk, tc, m_D_goes, m_D_thrown, Nat.one_ne_zero, Nat.reduceEqDiff]
      · refine ⟨tl, nI 2, dw, wf, ?_, hW⟩
        cases hf : fitB t w l g t' w' l' g' p o
        · simp (disch := omega) only [q_lit, q_m1, q_m1', nI_add, pk_mul, pk_sub, q_sh, q_b1, q_b0, nI_leI, nI_ltI, nI_eq, nI_clamp, q_nle, q_le, q_nlt, q_lt, q_mlt, q_mle, q_ltm, q_lem, q_eqm, q_meq, Nat.not_lt_zero, or_false, false_or, or_true, true_or, and_true, true_and, false_and, and_false, if_true, if_false, ↓reduceIte, Option.bind_some, not_true, not_false_eq_true, e_wi, ed, ec, fd, fc, i1, es, ef, hf, bI_0, Bool.true_eq_false, tk, tc, m_D_goes, m_D_thrown, Nat.one_ne_zero, Nat.reduceEqDiff]
        · simp (disch := omega) only [q_lit, q_m1, q_m1', nI_add, pk_mul, pk_sub, q_sh, q_b1, q_b0, nI_leI, nI_ltI, nI_eq, nI_clamp, q_nle, q_le, q_nlt, q_lt, q_mlt, q_mle, q_ltm, q_lem, q_eqm, q_meq, Nat.not_lt_zero, or_false, false_or, or_true, true_or, and_true, true_and, false_and, and_false, if_true, if_false, ↓reduceIte, Option.bind_some, not_true, not_false_eq_true, e_wi, ed, ec, fd, fc, i1, es, ef, hf, bI_0, Bool.true_eq_false, tk, tc, m_D_goes, m_D_thrown, Nat.one_ne_zero, Nat.reduceEqDiff]
    · refine ⟨tl, nI 1, dw, wf, ?_, hW⟩
      rcases e_in (a := 0) (b := 1000000) (by omega) (by omega) x3 with ⟨k, _, hk, rfl, i1⟩ | i1
      · simp (disch := omega) only [q_lit, q_m1, q_m1', nI_add, pk_mul, pk_sub, q_sh, q_b1, q_b0, nI_leI, nI_ltI, nI_eq, nI_clamp, q_nle, q_le, q_nlt, q_lt, q_mlt, q_mle, q_ltm, q_lem, q_eqm, q_meq, Nat.not_lt_zero, or_false, false_or, or_true, true_or, and_true, true_and, false_and, and_false, if_true, if_false, ↓reduceIte, Option.bind_some, not_true, not_false_eq_true, e_wi, ed, ec, fd, fc, i1, tk, tc, m_D_goes, m_D_thrown, Nat.one_ne_zero, Nat.reduceEqDiff]
      · simp (disch := omega) only [q_lit, q_m1, q_m1', nI_add, pk_mul, pk_sub, q_sh, q_b1, q_b0, nI_leI, nI_ltI, nI_eq, nI_clamp, q_nle, q_le, q_nlt, q_lt, q_mlt, q_mle, q_ltm, q_lem, q_eqm, q_meq, Nat.not_lt_zero, or_false, false_or, or_true, true_or, and_true, true_and, false_and, and_false, if_true, if_false, ↓reduceIte, Option.bind_some, not_true, not_false_eq_true, e_wi, ed, ec, fd, fc, i1, tk, tc, m_D_goes, m_D_thrown, Nat.one_ne_zero, Nat.reduceEqDiff]
  · refine ⟨tl, nI 1, dw, wf, ?_, hW⟩
    rcases e_in (a := 0) (b := 1000000) (by omega) (by omega) x3 with ⟨k, _, hk, rfl, i1⟩ | i1
    · simp (disch := omega) only [q_lit, q_m1, q_m1', nI_add, pk_mul, pk_sub, q_sh, q_b1, q_b0, nI_leI, nI_ltI, nI_eq, nI_clamp, q_nle, q_le, q_nlt, q_lt, q_mlt, q_mle, q_ltm, q_lem, q_eqm, q_meq, Nat.not_lt_zero, or_false, false_or, or_true, true_or, and_true, true_and, false_and, and_false, if_true, if_false, ↓reduceIte, Option.bind_some, not_true, not_false_eq_true, e_wi, ed, ec, i1, tk, tc, m_D_goes, m_D_thrown, Nat.one_ne_zero, Nat.reduceEqDiff]
    · simp (disch := omega) only [q_lit, q_m1, q_m1', nI_add, pk_mul, pk_sub, q_sh, q_b1, q_b0, nI_leI, nI_ltI, nI_eq, nI_clamp, q_nle, q_le, q_nlt, q_lt, q_mlt, q_mle, q_ltm, q_lem, q_eqm, q_meq, Nat.not_lt_zero, or_false, false_or, or_true, true_or, and_true, true_and, false_and, and_false, if_true, if_false, ↓reduceIte, Option.bind_some, not_true, not_false_eq_true, e_wi, ed, ec, i1, tk, tc, m_D_goes, m_D_thrown, Nat.one_ne_zero, Nat.reduceEqDiff]
theorem k_3 {ct ag sl : Nat} (h2 : ct ≤ 1000) (h3 : ag ≤ 1000) (h4 : sl ≤ 9999) (x1 x2 x3 : Int32) :
    ∃ ct' ag' sl' thr, m_L_case3 (nI ct) (nI ag) (nI sl) (nI ct) (nI ag) (nI sl) x1 x2 x3 = some (nI ct', nI ag', nI sl', thr, nI ct', nI ag', nI sl') ∧ ct' ≤ 1000 ∧ ag' ≤ 1000 ∧ sl' ≤ 9999 := by
  unfold m_L_case3 m_L_rules m_S_rules m_D_rules
  rcases e_in (a := 0) (b := 1000) (by omega) (by omega) x1 with ⟨k1, _, q1, rfl, i1⟩ | i1
  · rcases e_in (a := 0) (b := 1000) (by omega) (by omega) x2 with ⟨k2, _, q2, rfl, i2⟩ | i2
    · rcases e_in (a := 0) (b := 9999) (by omega) (by omega) x3 with ⟨k3, _, q3, rfl, i3⟩ | i3
      · refine ⟨k1, k2, k3, nI 0, ?_, q1, q2, q3⟩
        simp (disch := omega) only [q_lit, q_m1, q_m1', nI_add, pk_mul, pk_sub, q_sh, q_b1, q_b0, nI_leI, nI_ltI, nI_eq, nI_clamp, q_nle, q_le, q_nlt, q_lt, q_mlt, q_mle, q_ltm, q_lem, q_eqm, q_meq, Nat.not_lt_zero, or_false, false_or, or_true, true_or, and_true, true_and, false_and, and_false, if_true, if_false, ↓reduceIte, Option.bind_some, not_true, not_false_eq_true, e_wi, i1, i2, i3, tk, tc, m_D_goes, m_D_thrown, Nat.one_ne_zero, Nat.reduceEqDiff]
      · refine ⟨ct, ag, sl, nI 1, ?_, h2, h3, h4⟩
        simp (disch := omega) only [q_lit, q_m1, q_m1', nI_add, pk_mul, pk_sub, q_sh, q_b1, q_b0, nI_leI, nI_ltI, nI_eq, nI_clamp, q_nle, q_le, q_nlt, q_lt, q_mlt, q_mle, q_ltm, q_lem, q_eqm, q_meq, Nat.not_lt_zero, or_false, false_or, or_true, true_or, and_true, true_and, false_and, and_false, if_true, if_false, ↓reduceIte, Option.bind_some, not_true, not_false_eq_true, e_wi, i1, i2, i3, tk, tc, m_D_goes, m_D_thrown, Nat.one_ne_zero, Nat.reduceEqDiff]
    · refine ⟨ct, ag, sl, nI 1, ?_, h2, h3, h4⟩
      simp (disch := omega) only [q_lit, q_m1, q_m1', nI_add, pk_mul, pk_sub, q_sh, q_b1, q_b0, nI_leI, nI_ltI, nI_eq, nI_clamp, q_nle, q_le, q_nlt, q_lt, q_mlt, q_mle, q_ltm, q_lem, q_eqm, q_meq, Nat.not_lt_zero, or_false, false_or, or_true, true_or, and_true, true_and, false_and, and_false, if_true, if_false, ↓reduceIte, Option.bind_some, not_true, not_false_eq_true, e_wi, i1, i2, tk, tc, m_D_goes, m_D_thrown, Nat.one_ne_zero, Nat.reduceEqDiff]
  · refine ⟨ct, ag, sl, nI 1, ?_, h2, h3, h4⟩
    simp (disch := omega) only [q_lit, q_m1, q_m1', nI_add, pk_mul, pk_sub, q_sh, q_b1, q_b0, nI_leI, nI_ltI, nI_eq, nI_clamp, q_nle, q_le, q_nlt, q_lt, q_mlt, q_mle, q_ltm, q_lem, q_eqm, q_meq, Nat.not_lt_zero, or_false, false_or, or_true, true_or, and_true, true_and, false_and, and_false, if_true, if_false, ↓reduceIte, Option.bind_some, not_true, not_false_eq_true, e_wi, i1, tk, tc, m_D_goes, m_D_thrown, Nat.one_ne_zero, Nat.reduceEqDiff]
theorem k_4 {np no : Nat} {t w l g d t' w' l' g' d' : Nat → Int32} (hB : I_B np (nI np) (nI np) t w l g d) (hB' : I_B no (nI no) (nI no) t' w' l' g' d') (jo : Nat → Int64) (x1 x2 : Int32) :
    ∃ jo' thr, m_L_case4 t w l g (nI np) t' w' l' g' (nI no) (nI np) (nI no) d d' jo x1 x2 = some (jo', thr) := by
  have hnp := hB.1
  have hno := hB'.1
  unfold m_L_case4 m_L_fits m_S_fits m_S_refuseUnknownPair m_S_refuseUnknownPiece m_D_fits
  rcases e_isP hnp x1 with ⟨p, hp1, rfl, ed, ec⟩ | ⟨ed, ec⟩
  · rcases e_isO hno x2 with ⟨o, ho1, rfl, fd, fc⟩ | ⟨fd, fc⟩
    · have es := e_suits (t := t) (w := w) (l := l) (g := g) (t' := t') (w' := w') (l' := l') (g' := g') (p := p) (o := o) (by omega) (by omega)
      have ef := e_isFit hB hB' hp1 ho1
      cases hf : fitB t w l g t' w' l' g' p o with
      | true =>
        refine ⟨vp_updL jo 0 (lN 1), nI 0, ?_⟩
        simp (disch := omega) only [q_lit, q_m1, q_m1', nI_add, pk_mul, pk_sub, q_sh, q_b1, q_b0, nI_leI, nI_ltI, nI_eq, nI_clamp, q_nle, q_le, q_nlt, q_lt, q_mlt, q_mle, q_ltm, q_lem, q_eqm, q_meq, Nat.not_lt_zero, or_false, false_or, or_true, true_or, and_true, true_and, false_and, and_false, if_true, if_false, ↓reduceIte, Option.bind_some, not_true, not_false_eq_true, q_litL, ed, ec, fd, fc, es, ef, hf, bI_0, bI_n, Bool.true_eq_false, tk, tc, m_D_goes, m_D_thrown, Nat.one_ne_zero, Nat.reduceEqDiff, pk_uLs, q_ceq]
      | false =>
        refine ⟨vp_updL jo 0 (lN 0), nI 0, ?_⟩
        simp (disch := omega) only [q_lit, q_m1, q_m1', nI_add, pk_mul, pk_sub, q_sh, q_b1, q_b0, nI_leI, nI_ltI, nI_eq, nI_clamp, q_nle, q_le, q_nlt, q_lt, q_mlt, q_mle, q_ltm, q_lem, q_eqm, q_meq, Nat.not_lt_zero, or_false, false_or, or_true, true_or, and_true, true_and, false_and, and_false, if_true, if_false, ↓reduceIte, Option.bind_some, not_true, not_false_eq_true, q_litL, ed, ec, fd, fc, es, ef, hf, bI_0, bI_n, Bool.true_eq_false, tk, tc, m_D_goes, m_D_thrown, Nat.one_ne_zero, Nat.reduceEqDiff, pk_uLs, q_ceq]
    · refine ⟨jo, nI 1, ?_⟩
      simp (disch := omega) only [q_lit, q_m1, q_m1', nI_add, pk_mul, pk_sub, q_sh, q_b1, q_b0, nI_leI, nI_ltI, nI_eq, nI_clamp, q_nle, q_le, q_nlt, q_lt, q_mlt, q_mle, q_ltm, q_lem, q_eqm, q_meq, Nat.not_lt_zero, or_false, false_or, or_true, true_or, and_true, true_and, false_and, and_false, if_true, if_false, ↓reduceIte, Option.bind_some, not_true, not_false_eq_true, ed, ec, fd, fc, tk, tc, m_D_goes, m_D_thrown, Nat.one_ne_zero, Nat.reduceEqDiff]
  · refine ⟨jo, nI 1, ?_⟩
    simp (disch := omega) only [q_lit, q_m1, q_m1', nI_add, pk_mul, pk_sub, q_sh, q_b1, q_b0, nI_leI, nI_ltI, nI_eq, nI_clamp, q_nle, q_le, q_nlt, q_lt, q_mlt, q_mle, q_ltm, q_lem, q_eqm, q_meq, Nat.not_lt_zero, or_false, false_or, or_true, true_or, and_true, true_and, false_and, and_false, if_true, if_false, ↓reduceIte, Option.bind_some, not_true, not_false_eq_true, ed, ec, tk, tc, m_D_goes, m_D_thrown, Nat.one_ne_zero, Nat.reduceEqDiff]
theorem k_5 {np no td ct ag : Nat} {cf wf : Nat → Nat} {t w l g d t' w' l' g' d' cm dcm tl dw : Nat → Int32} (hB : I_B np (nI np) (nI np) t w l g d) (hB' : I_B no (nI no) (nI no) t' w' l' g' d') (hC : I_C np td cf cm dcm) (hW : I_W wf tl dw) (h1 : td ≤ 9999) (h2 : ct ≤ 1000) (h3 : ag ≤ 1000) (jo : Nat → Int64) (x1 x2 : Int32) :
    ∃ jo' thr, m_L_case5 t w l g (nI np) t' w' l' g' (nI no) cm tl (nI td) (nI ct) (nI ag) (nI td) (nI ct) (nI ag) (nI np) (nI no) d d' dcm dw jo x1 x2 = some (jo', thr) := by
  have hnp := hB.1
  have hno := hB'.1
  unfold m_L_case5 m_L_net m_S_net m_S_refuseUnknownPair m_S_refuseUnknownPiece m_S_refuseMisfit m_D_net
  rcases e_isP hnp x1 with ⟨p, hp1, rfl, ed, ec⟩ | ⟨ed, ec⟩
  · rcases e_isO hno x2 with ⟨o, ho1, rfl, fd, fc⟩ | ⟨fd, fc⟩
    · have es := e_suits (t := t) (w := w) (l := l) (g := g) (t' := t') (w' := w') (l' := l') (g' := g') (p := p) (o := o) (by omega) (by omega)
      have ef := e_isFit hB hB' hp1 ho1
      have w1 := nt_S (pw := w) (pl := l) (ow := w') (ol := l') (o := o) hnp hC hW h1 h2 h3 hp1 (by omega)
      have w2 := nt_D hB hB' hC hW h1 h2 h3 hp1 ho1
      cases hf : fitB t w l g t' w' l' g' p o with
      | true =>
        refine ⟨vp_updL jo 0 (nI (ntF w l w' l' wf cf td ct ag p o)).toInt64, nI 0, ?_⟩
        simp (disch := omega) only [q_lit, q_m1, q_m1', nI_add, pk_mul, pk_sub, q_sh, q_b1, q_b0, nI_leI, nI_ltI, nI_eq, nI_clamp, q_nle, q_le, q_nlt, q_lt, q_mlt, q_mle, q_ltm, q_lem, q_eqm, q_meq, Nat.not_lt_zero, or_false, false_or, or_true, true_or, and_true, true_and, false_and, and_false, if_true, if_false, ↓reduceIte, Option.bind_some, not_true, not_false_eq_true, ed, ec, fd, fc, es, ef, hf, w1, w2, bI_0, Bool.true_eq_false, tk, tc, m_D_goes, m_D_thrown, Nat.one_ne_zero, Nat.reduceEqDiff, pk_uLs, q_ceq]
      | false =>
        refine ⟨jo, nI 2, ?_⟩
        simp (disch := omega) only [q_lit, q_m1, q_m1', nI_add, pk_mul, pk_sub, q_sh, q_b1, q_b0, nI_leI, nI_ltI, nI_eq, nI_clamp, q_nle, q_le, q_nlt, q_lt, q_mlt, q_mle, q_ltm, q_lem, q_eqm, q_meq, Nat.not_lt_zero, or_false, false_or, or_true, true_or, and_true, true_and, false_and, and_false, if_true, if_false, ↓reduceIte, Option.bind_some, not_true, not_false_eq_true, ed, ec, fd, fc, es, ef, hf, bI_0, Bool.true_eq_false, tk, tc, m_D_goes, m_D_thrown, Nat.one_ne_zero, Nat.reduceEqDiff]
    · refine ⟨jo, nI 1, ?_⟩
      simp (disch := omega) only [q_lit, q_m1, q_m1', nI_add, pk_mul, pk_sub, q_sh, q_b1, q_b0, nI_leI, nI_ltI, nI_eq, nI_clamp, q_nle, q_le, q_nlt, q_lt, q_mlt, q_mle, q_ltm, q_lem, q_eqm, q_meq, Nat.not_lt_zero, or_false, false_or, or_true, true_or, and_true, true_and, false_and, and_false, if_true, if_false, ↓reduceIte, Option.bind_some, not_true, not_false_eq_true, ed, ec, fd, fc, tk, tc, m_D_goes, m_D_thrown, Nat.one_ne_zero, Nat.reduceEqDiff]
  · refine ⟨jo, nI 1, ?_⟩
    simp (disch := omega) only [q_lit, q_m1, q_m1', nI_add, pk_mul, pk_sub, q_sh, q_b1, q_b0, nI_leI, nI_ltI, nI_eq, nI_clamp, q_nle, q_le, q_nlt, q_lt, q_mlt, q_mle, q_ltm, q_lem, q_eqm, q_meq, Nat.not_lt_zero, or_false, false_or, or_true, true_or, and_true, true_and, false_and, and_false, if_true, if_false, ↓reduceIte, Option.bind_some, not_true, not_false_eq_true, ed, ec, tk, tc, m_D_goes, m_D_thrown, Nat.one_ne_zero, Nat.reduceEqDiff]
theorem k_7 {np no : Nat} {mu ran su dsu : Int32} {pd od dpd dod : Nat → Int32} (hM : I_M np no mu ran su dsu pd od dpd dod) : m_L_case7 su dsu = some (nI 0) := by
  have e := hM.1
  subst e
  unfold m_L_case7 m_S_sum m_M_bestSum m_D_sum
  simp (disch := omega) only [q_lit, q_m1, q_m1', nI_add, pk_mul, pk_sub, q_sh, q_b1, q_b0, nI_leI, nI_ltI, nI_eq, nI_clamp, q_nle, q_le, q_nlt, q_lt, q_mlt, q_mle, q_ltm, q_lem, q_eqm, q_meq, Nat.not_lt_zero, or_false, false_or, or_true, true_or, and_true, true_and, false_and, and_false, if_true, if_false, ↓reduceIte, Option.bind_some, not_true, not_false_eq_true]
