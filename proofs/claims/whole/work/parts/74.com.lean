/-! Own rows: known numbers; the law's case of several. -/
theorem e_isP {np : Nat} (h : np ≤ 10) (x : Int32) : (∃ p, p < np ∧ x = nI p ∧ m_D_isPiece (nI np) x = some (nI 1) ∧ m_B_has (nI np) x = some (nI 1)) ∨ (m_D_isPiece (nI np) x = some (nI 0) ∧ m_B_has (nI np) x = some (nI 0)) := by
  have z0 : ((some (0 : Int32)).bind fun r1 => if ¬ (r1 &&& 1) = r1 then none else some r1) = some (nI 0) := by decide +kernel
  have z1 : ((some (1 : Int32)).bind fun r1 => if ¬ (r1 &&& 1) = r1 then none else some r1) = some (nI 1) := by decide +kernel
  rcases pk_ix x (n := np) (by omega) with h1 | h1 | ⟨j, hj, rfl⟩
  · refine Or.inr ⟨?_, ?_⟩
    · unfold m_D_isPiece m_D_in
      rw [if_pos h1]
      exact z0
    · unfold m_B_has
      rw [if_pos h1]
      rfl
  · refine Or.inr ⟨?_, ?_⟩
    · unfold m_D_isPiece m_D_in
      by_cases h2 : x < 0
      · rw [if_pos h2]
        exact z0
      · have h3 : nI np - 1 < x := by
          have e : (nI np - nI 1).toInt = (np : Int) - (1 : Nat) := pk_sub_toInt (by omega) (by omega)
          have h4 := Int32.le_iff_toInt_le.mp h1
          rw [nI_toInt (by omega)] at h4
          refine Int32.lt_iff_toInt_lt.mpr ?_
          show (nI np - nI 1).toInt < _
          rw [e]
          omega
        rw [if_neg h2, if_pos h3]
        exact z0
    · unfold m_B_has
      by_cases h2 : x < 0
      · rw [if_pos h2]; rfl
      · rw [if_neg h2, if_pos h1]; rfl
  · refine Or.inl ⟨j, hj, rfl, ?_, ?_⟩
    · unfold m_D_isPiece m_D_in
      have a : nI np - 1 = nI (np - 1) := q_pr (by omega)
      rw [if_neg (nI_pos (by omega)), a, if_neg (nI_nlt (by omega) (by omega))]
      exact z1
    · unfold m_B_has
      rw [if_neg (nI_pos (by omega)), if_neg (nI_ge hj (by omega))]
      rfl
theorem e_isO {no : Nat} (h : no ≤ 10) (x : Int32) : (∃ p, p < no ∧ x = nI p ∧ m_D_isOrder (nI no) x = some (nI 1) ∧ m_B_has (nI no) x = some (nI 1)) ∨ (m_D_isOrder (nI no) x = some (nI 0) ∧ m_B_has (nI no) x = some (nI 0)) := e_isP h x
theorem I_Bl {n : Nat} {c dc : Int32} {t w l g d : Nat → Int32} (h : I_B n c dc t w l g d) : ∃ ln : Nat → Nat, ∀ i, i < n → l i = nI (ln i) ∧ ln i ≤ 1000 ∧ d (4 * i + 2) = nI (ln i) := by
  obtain ⟨_, _, _, hA⟩ := h
  refine ⟨fun i => (l i).toNatClampNeg, fun i hi => ?_⟩
  obtain ⟨_, _, a3, _, k, hk, e⟩ := hA i hi
  have e2 : (l i).toNatClampNeg = k := by rw [e]; exact nI_clamp (by omega)
  refine ⟨?_, ?_, ?_⟩
  · show l i = nI (l i).toNatClampNeg
    rw [e2, e]
  · show (l i).toNatClampNeg ≤ 1000
    omega
  · show d (4 * i + 2) = nI (l i).toNatClampNeg
    rw [e2, a3, e]
theorem k_9 {N np no td ct ag uo ho : Nat} {um cf wf : Nat → Nat} {t w l g d t' w' l' g' d' cm dcm tl dw up du db hp hl rf rt : Nat → Int32} {uu hh : Int32} (hN : 1025 ≤ N) (hB : I_B np (nI np) (nI np) t w l g d) (hB' : I_B no (nI no) (nI no) t' w' l' g' d') (hU : I_U np no um uo up uu du db) (hH : I_H np no td ho hp hl hh rf rt) (hC : I_C np td cf cm dcm) (hW : I_W wf tl dw) (h1 : td ≤ 9999) (h2 : ct ≤ 1000) (h3 : ag ≤ 1000) (jo : Nat → Int64) (x : Int32) :
    ∃ up' uu' hp' hh' jo' thr du' db' um' uo' ho', m_L_case9 N t w l g (nI np) t' w' l' g' (nI no) cm tl up uu hp hh (nI td) (nI ct) (nI ag) (nI td) (nI ct) (nI ag) (nI np) (nI no) d d' dcm dw du db rf rt jo x = some (up', uu', hp', hh', jo', thr, du', db') ∧ I_U np no um' uo' up' uu' du' db' ∧ I_H np no td ho' hp' hl hh' rf rt := by
  have hnp := hB.1
  have hno := hB'.1
  have n1 := q_p2' hno
  have hv : vp_nar .boolean (nI 1) = nI 1 := by decide +kernel
  unfold m_L_case9 m_L_several m_S_several m_S_refuseUnknownPiece m_D_several
  rcases e_isP hnp x with ⟨p, hp1, rfl, ed, ec⟩ | ⟨ed, ec⟩
  · obtain ⟨v1, v2, v3⟩ := hU.2.2.1 p (by omega)
    have hpu := e_pused (p := p) (um := um) (by omega) v1 (q_pw v2 hno (by omega))
    have hph := e_pheld (hp := hp) (p := p) (by omega)
    have hre := e_resv (p := p) (by omega) (hH.2.2.1 p hp1)
    by_cases c1 : um p = 0
    · rcases hH.2.2.2.2.1 p (by omega) with y | ⟨o, y1, y2, _⟩
      · obtain ⟨ln, hln⟩ := I_Bl hB
        obtain ⟨ln', hln'⟩ := I_Bl hB'
        obtain ⟨opn, o1, o2, eb⟩ := e_bestSet (N := N) (np := np) (p := p) (my := mayB um uo ho hp (fitB t w l g t' w' l' g')) (ln := ln') (nt := ntF w l w' l' wf cf td ct ag p) (pl := ln p) hN hno (by omega) (fun o ho1 => e_may hno hU hH (by omega) ho1) (fun o ho1 => ⟨(hln' o ho1).1, (hln' o ho1).2.1⟩) (hln p hp1).1 (hln p hp1).2.1 (fun o ho1 => nt_S hnp hC hW h1 h2 h3 hp1 (by omega)) (fun o ho1 => nt_bd hW (by omega) (by omega))
        obtain ⟨s1, s2, s3, s4, s5⟩ := btB_sp no (ln p) opn ln' (ntF w l w' l' wf cf td ct ag p) hno (fun o ho1 => nt_bd hW (by omega) (by omega)) opn
        have e55 := fun (y2 thr : Int32) (K : _) => e_55 (N := N) (no := no) (p := p) (opn := opn) (pl := ln p) (td := nI td) (ct := nI ct) (ag := nI ag) (np := nI np) (y2 := y2) (thr := thr) (d := d) (d' := d') (dcm := dcm) (dw := dw) (du := du) (db := db) (rf := rf) (rt := rt) (my := mayB um uo ho hp (fitB t w l g t' w' l' g')) (ln := ln') (nt := ntF w l w' l' wf cf td ct ag p) (K := K) hN hno (by omega) o1 o2 (fun o ho1 => e_can (N := N) (by omega) hB hB' hU hH hp1 ho1) (fun o ho1 => nt_D hB hB' hC hW h1 h2 h3 hp1 ho1) (fun o ho1 => ⟨(hln' o ho1).2.2, (hln' o ho1).2.1⟩) (hln p hp1).2.2 (hln p hp1).2.1 (fun o ho1 => nt_bd hW (by omega) (by omega))
        generalize btB no (ln p) opn ln' (ntF w l w' l' wf cf td ct ag p) opn = B at eb s1 s2 s3 s4 s5 e55
        have hBs : B.1 < 1024 := by omega
        have hbc := q_bc B.1 hBs
        have b1 : sm B.1 (fun _ => 1) 10 ≤ 10 * 1 := sm_bd 10 (fun o _ => Nat.le_refl _)
        by_cases c2 : B.1 = 0
        · refine ⟨up, uu, hp, hh, vp_updL jo 0 (lN (sm B.1 (fun _ => 1) 10)), nI 0, du, db, um, uo, ho, ?_, hU, hH⟩
          rw [c2] at hbc
          simp (disch := omega) only [q_lit, q_m1, q_m1', nI_add, pk_mul, pk_sub, q_sh, q_b1, q_b0, nI_leI, nI_ltI, nI_eq, nI_clamp, q_nle, q_le, q_nlt, q_lt, q_mlt, q_mle, q_ltm, q_lem, q_eqm, q_meq, Nat.not_lt_zero, or_false, false_or, or_true, true_or, and_true, true_and, false_and, and_false, if_true, if_false, ↓reduceIte, Option.bind_some, not_true, not_false_eq_true, ed, ec, tk, tc, hpu, hph, bI_0, c1, y, ne_eq, decide_false, eb, hbc, c2, v3, hre, m_D_goes, Nat.one_ne_zero, Nat.reduceEqDiff, e55, nI_l, pk_uLs, q_ceq, sm_0, m_D_thrown, q_lem]
        · refine e_246 (N := N) (no := no) (p := p) (bs := B.1) (y2 := nI 1) (y4 := nI (sm B.1 (fun _ => 1) 10)) (y5 := nI B.2.2) (thr := nI 0) (du := upd du p (nI 1)) (db := db) (K := fun y1c y2c y3c y4c y5c y6c d_thrownc d_usedc d_usedByc => some (y4c, d_thrownc, d_usedc, d_usedByc)) (Q := fun r => (L_D_several_246 N (nI no) (fun y1c y2c y3c y4c y5c y6c d_thrownc d_usedc d_usedByc => some (y4c, d_thrownc, d_usedc, d_usedByc)) N (nI p) (nI 1) (nI B.1) (nI (sm B.1 (fun _ => 1) 10)) (nI B.2.2) (nI 0) (nI 0) (upd du p (nI 1)) db = r) → _) (by omega) hno hBs (fun db' hdb' e246 => ?_) rfl
          have hup : upd hp p mI = hp := upd_id y
          have jU := U_cut (s := B.1) (db' := db') hU hp1 c1 (by omega) c2 (fun o ho1 hb => by
            have hb2 := s5 o hb
            rw [o2 o ho1] at hb2
            exact (mayB_t hb2).2.1) hdb'
          refine ⟨upd up p (nI B.1), uu ||| nI B.1, hp, hh, vp_updL jo 0 (lN (sm B.1 (fun _ => 1) 10)), nI 0, upd du p (nI 1), db', _, _, ho, ?_, jU, hH⟩
          have ecut : m_S_cutPiece up uu hp hh (nI p) (nI B.1) = some (upd up p (nI B.1), uu ||| nI B.1, hp, hh) := by
            rw [e_cut (by omega)]
            unfold cutF
            rw [if_pos y, hup]
          simp (disch := omega) only [q_lit, q_m1, q_m1', nI_add, pk_mul, pk_sub, q_sh, q_b1, q_b0, nI_leI, nI_ltI, nI_eq, nI_clamp, q_nle, q_le, q_nlt, q_lt, q_mlt, q_mle, q_ltm, q_lem, q_eqm, q_meq, Nat.not_lt_zero, or_false, false_or, or_true, true_or, and_true, true_and, false_and, and_false, if_true, if_false, ↓reduceIte, Option.bind_some, not_true, not_false_eq_true, ed, ec, tk, tc, hpu, hph, bI_0, c1, y, ne_eq, decide_false, eb, hbc, c2, v3, hre, m_D_goes, Nat.one_ne_zero, Nat.reduceEqDiff, e55, nI_l, pk_uLs, q_ceq, m_D_thrown, q_lem, ecut, hv, e246, s2]
      · refine ⟨up, uu, hp, hh, jo, nI 2, du, db, um, uo, ho, ?_, hU, hH⟩
        simp (disch := omega) only [q_lit, q_m1, q_m1', nI_add, pk_mul, pk_sub, q_sh, q_b1, q_b0, nI_leI, nI_ltI, nI_eq, nI_clamp, q_nle, q_le, q_nlt, q_lt, q_mlt, q_mle, q_ltm, q_lem, q_eqm, q_meq, Nat.not_lt_zero, or_false, false_or, or_true, true_or, and_true, true_and, false_and, and_false, if_true, if_false, ↓reduceIte, Option.bind_some, not_true, not_false_eq_true, ed, ec, tk, tc, hpu, hph, bI_0, c1, y2, ne_eq, decide_false, decide_true, v3, hre, m_D_goes, Nat.one_ne_zero, Nat.reduceEqDiff, m_D_thrown, Bool.true_eq_false]
    · refine ⟨up, uu, hp, hh, jo, nI 2, du, db, um, uo, ho, ?_, hU, hH⟩
      simp (disch := omega) only [q_lit, q_m1, q_m1', nI_add, pk_mul, pk_sub, q_sh, q_b1, q_b0, nI_leI, nI_ltI, nI_eq, nI_clamp, q_nle, q_le, q_nlt, q_lt, q_mlt, q_mle, q_ltm, q_lem, q_eqm, q_meq, Nat.not_lt_zero, or_false, false_or, or_true, true_or, and_true, true_and, false_and, and_false, if_true, if_false, ↓reduceIte, Option.bind_some, not_true, not_false_eq_true, ed, ec, tk, tc, hpu, bI_0, c1, ne_eq, decide_true, v3, m_D_goes, Nat.one_ne_zero, Nat.reduceEqDiff, m_D_thrown, Bool.true_eq_false]
  · refine ⟨up, uu, hp, hh, jo, nI 1, du, db, um, uo, ho, ?_, hU, hH⟩
    simp (disch := omega) only [q_lit, q_m1, q_m1', nI_add, pk_mul, pk_sub, q_sh, q_b1, q_b0, nI_leI, nI_ltI, nI_eq, nI_clamp, q_nle, q_le, q_nlt, q_lt, q_mlt, q_mle, q_ltm, q_lem, q_eqm, q_meq, Nat.not_lt_zero, or_false, false_or, or_true, true_or, and_true, true_and, false_and, and_false, if_true, if_false, ↓reduceIte, Option.bind_some, not_true, not_false_eq_true, ed, ec, tk, tc, m_D_goes, Nat.one_ne_zero, Nat.reduceEqDiff, m_D_thrown]
