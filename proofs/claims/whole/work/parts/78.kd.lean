/-! Own rows: the law's cases of undo, reserve, tick. -/
theorem e_u46 {N no p : Nat} {thr : Int32} {du db : Nat → Int32} {K : _} {Q : _ → Prop} (hN : 11 ≤ N) (hno : no ≤ 10) (hQ : ∀ db', (∀ o, o < no → db' o = if db o = nI p then mI else db o) → Q (K (nI p) (nI no) thr du db')) :
    Q (L_D_undo_46 N (nI no) K N (nI p) (nI 0) thr du db) := by
  obtain ⟨x, e, h⟩ := lpU (fun n i x => L_D_undo_46 N (nI no) K n (nI p) (nI i) thr du x) (fun x => K (nI p) (nI no) thr du x) (fun i x => ∀ o, o < no → x o = if o < i ∧ db o = nI p then mI else db o) no
    (fun n x _ => by
      simp only [L_D_undo_46]
      simp (disch := omega) only [q_lit, q_m1, q_m1', nI_add, pk_mul, pk_sub, q_sh, q_b1, q_b0, nI_leI, nI_ltI, nI_eq, nI_clamp, q_nle, q_le, q_nlt, q_lt, q_mlt, q_mle, q_ltm, q_lem, q_eqm, q_meq, Nat.not_lt_zero, or_false, false_or, or_true, true_or, and_true, true_and, false_and, and_false, if_true, if_false, ↓reduceIte, Option.bind_some, not_true, not_false_eq_true])
    (fun n i x hi h => by
      have hxi : x i = db i := by rw [h i hi, if_neg (by omega)]
      by_cases hb : db i = nI p
      · refine ⟨upd x i mI, ?_, fun o ho => ?_⟩
        · simp only [L_D_undo_46]
          simp (disch := omega) only [q_lit, q_m1, q_m1', nI_add, pk_mul, pk_sub, q_sh, q_b1, q_b0, nI_leI, nI_ltI, nI_eq, nI_clamp, q_nle, q_le, q_nlt, q_lt, q_mlt, q_mle, q_ltm, q_lem, q_eqm, q_meq, Nat.not_lt_zero, or_false, false_or, or_true, true_or, and_true, true_and, false_and, and_false, if_true, if_false, ↓reduceIte, Option.bind_some, not_true, not_false_eq_true, hxi, hb]
        · by_cases q : o = i
          · subst q; rw [pk_us, if_pos ⟨by omega, hb⟩]
          · rw [pk_un q, h o ho]
            by_cases r : o < i ∧ db o = nI p
            · rw [if_pos r, if_pos ⟨by omega, r.2⟩]
            · rw [if_neg r, if_neg (fun z => r ⟨by omega, z.2⟩)]
      · refine ⟨x, ?_, fun o ho => ?_⟩
        · simp only [L_D_undo_46]
          simp (disch := omega) only [q_lit, q_m1, q_m1', nI_add, pk_mul, pk_sub, q_sh, q_b1, q_b0, nI_leI, nI_ltI, nI_eq, nI_clamp, q_nle, q_le, q_nlt, q_lt, q_mlt, q_mle, q_ltm, q_lem, q_eqm, q_meq, Nat.not_lt_zero, or_false, false_or, or_true, true_or, and_true, true_and, false_and, and_false, if_true, if_false, ↓reduceIte, Option.bind_some, not_true, not_false_eq_true, hxi, hb]
        · rw [h o ho]
          by_cases q : o = i
          · subst q; rw [if_neg (fun z => hb z.2), if_neg (fun z => hb z.2)]
          · by_cases r : o < i ∧ db o = nI p
            · rw [if_pos r, if_pos ⟨by omega, r.2⟩]
            · rw [if_neg r, if_neg (fun z => r ⟨by omega, z.2⟩)]) N 0 db (by omega) (by omega) (fun o ho => by rw [if_neg (by omega)])
  have e' : L_D_undo_46 N (nI no) K N (nI p) (nI 0) thr du db = _ := e
  rw [e']
  refine hQ x (fun o ho => ?_)
  rw [h o ho]
  by_cases r : db o = nI p
  · rw [if_pos ⟨ho, r⟩, if_pos r]
  · rw [if_neg (fun z => r z.2), if_neg r]
theorem U_free {np no uo p : Nat} {um : Nat → Nat} {up du db db' : Nat → Int32} {uu : Int32} (hnp : np ≤ 10) (hU : I_U np no um uo up uu du db) (hp : p < np) (hno : no ≤ 10) (hdb : ∀ o, o < no → db' o = if db o = nI p then mI else db o) :
    I_U np no (fun q => if q = p then 0 else um q) (uo ^^^ (uo &&& um p)) (upd up p (nI 0)) (uu &&& (up p ^^^ mI)) (upd du p (nI 0)) db' := by
  obtain ⟨rfl, u2, u3, u4, u5⟩ := hU
  have n1 := q_p2' hno
  have n0 := q_p0' no
  refine ⟨?_, Nat.xor_lt_two_pow u2 (Nat.lt_of_le_of_lt Nat.and_le_left u2), fun q hq => ?_, fun q h1 h2 => ?_, fun o ho => ?_⟩
  · rw [(u3 p (by omega)).1, q_not (by omega)]
  · by_cases e : q = p
    · subst e
      refine ⟨?_, ?_, ?_⟩
      · show upd up q (nI 0) q = nI (if q = q then 0 else um q)
        rw [pk_us, if_pos rfl]
      · show (if q = q then 0 else um q) < _
        rw [if_pos rfl]; exact n0
      · show upd du q (nI 0) q = bI (decide ((if q = q then 0 else um q) ≠ 0))
        rw [pk_us, if_pos rfl]; rfl
    · simp only [if_neg e]
      rw [pk_un e, pk_un e]
      exact u3 q hq
  · simp only [if_neg (show ¬ q = p by omega)]
    exact u4 q h1 h2
  · rw [Nat.testBit_xor, Nat.testBit_and]
    rcases u5 o ho with ⟨w1, w2, w3⟩ | ⟨r, w1, w2, w3, w4⟩
    · refine Or.inl ⟨by rw [w1]; rfl, by rw [hdb o ho, w2, if_neg (by rw [q_meq (by omega)]; exact id)], fun q hq => ?_⟩
      by_cases e : q = p
      · simp only [if_pos e]; exact Nat.zero_testBit o
      · simp only [if_neg e]; exact w3 q hq
    · by_cases e : r = p
      · subst e
        refine Or.inl ⟨by rw [w2, w4 r (by omega), decide_eq_true rfl]; rfl, by rw [hdb o ho, w3, if_pos rfl], fun q hq => ?_⟩
        by_cases e : q = r
        · simp only [if_pos e]; exact Nat.zero_testBit o
        · simp only [if_neg e]; rw [w4 q hq, decide_eq_false e]
      · have hpr : ¬ p = r := fun x => e x.symm
        refine Or.inr ⟨r, w1, by rw [w2, w4 p (by omega), decide_eq_false hpr]; rfl, by rw [hdb o ho, w3, if_neg (by rw [nI_eq (by omega) (by omega)]; exact e)], fun q hq => ?_⟩
        by_cases e2 : q = p
        · simp only [if_pos e2]; rw [Nat.zero_testBit, e2, decide_eq_false hpr]
        · simp only [if_neg e2]; exact w4 q hq
theorem k_13 {N np no uo : Nat} {um : Nat → Nat} {up du db : Nat → Int32} {uu : Int32} (hN : 11 ≤ N) (hnp : np ≤ 10) (hno : no ≤ 10) (hU : I_U np no um uo up uu du db) (x1 : Int32) :
    ∃ up' uu' thr du' db' um' uo', m_L_case13 N (nI np) up uu (nI np) (nI no) du db x1 = some (up', uu', thr, du', db') ∧ I_U np no um' uo' up' uu' du' db' := by
  have hv : vp_nar .boolean (nI 0) = nI 0 := by decide +kernel
  unfold m_L_case13 m_L_undo m_S_undo m_S_refuseUnknownPiece m_D_undo m_U_free
  rcases e_isP hnp x1 with ⟨p, hp1, rfl, ed, ec⟩ | ⟨ed, ec⟩
  · obtain ⟨v1, v2, v3⟩ := hU.2.2.1 p (by omega)
    have hpu := e_pused (p := p) (um := um) (by omega) v1 (q_pw v2 hno (by omega))
    by_cases c1 : um p = 0
    · refine ⟨up, uu, nI 2, du, db, um, uo, ?_, hU⟩
      simp (disch := omega) only [q_lit, q_m1, q_m1', nI_add, pk_mul, pk_sub, q_sh, q_b1, q_b0, nI_leI, nI_ltI, nI_eq, nI_clamp, q_nle, q_le, q_nlt, q_lt, q_mlt, q_mle, q_ltm, q_lem, q_eqm, q_meq, Nat.not_lt_zero, or_false, false_or, or_true, true_or, and_true, true_and, false_and, and_false, if_true, if_false, ↓reduceIte, Option.bind_some, not_true, not_false_eq_true, ed, ec, tk, tc, hpu, v3, bI_0, c1, ne_eq, decide_false, m_D_goes, m_D_thrown, Nat.one_ne_zero, Nat.reduceEqDiff]
    · refine e_u46 (N := N) (no := no) (p := p) (thr := nI 0) (du := upd du p (nI 0)) (db := db) (K := fun y1a y2a d_throwna d_useda d_usedBya => some (d_throwna, d_useda, d_usedBya)) (Q := fun r => (L_D_undo_46 N (nI no) (fun y1a y2a d_throwna d_useda d_usedBya => some (d_throwna, d_useda, d_usedBya)) N (nI p) (nI 0) (nI 0) (upd du p (nI 0)) db = r) → _) hN hno (fun db' hdb' e46 => ?_) rfl
      refine ⟨upd up p (nI 0), uu &&& (up p ^^^ mI), nI 0, upd du p (nI 0), db', _, _, ?_, U_free hnp hU hp1 hno hdb'⟩
      simp (disch := omega) only [q_lit, q_m1, q_m1', nI_add, pk_mul, pk_sub, q_sh, q_b1, q_b0, nI_leI, nI_ltI, nI_eq, nI_clamp, q_nle, q_le, q_nlt, q_lt, q_mlt, q_mle, q_ltm, q_lem, q_eqm, q_meq, Nat.not_lt_zero, or_false, false_or, or_true, true_or, and_true, true_and, false_and, and_false, if_true, if_false, ↓reduceIte, Option.bind_some, not_true, not_false_eq_true, ed, ec, tk, tc, hpu, v3, bI_0, c1, ne_eq, decide_true, Bool.true_eq_false, m_D_goes, m_D_thrown, Nat.one_ne_zero, Nat.reduceEqDiff, hv, e46]
  · refine ⟨up, uu, nI 1, du, db, um, uo, ?_, hU⟩
    simp (disch := omega) only [q_lit, q_m1, q_m1', nI_add, pk_mul, pk_sub, q_sh, q_b1, q_b0, nI_leI, nI_ltI, nI_eq, nI_clamp, q_nle, q_le, q_nlt, q_lt, q_mlt, q_mle, q_ltm, q_lem, q_eqm, q_meq, Nat.not_lt_zero, or_false, false_or, or_true, true_or, and_true, true_and, false_and, and_false, if_true, if_false, ↓reduceIte, Option.bind_some, not_true, not_false_eq_true, ed, ec, tk, tc, m_D_goes, m_D_thrown, Nat.one_ne_zero, Nat.reduceEqDiff]
theorem H_hold {np no td ho p o k : Nat} {hp hl rf rt : Nat → Int32} {hh : Int32} (hno : no ≤ 10) (hnp : np ≤ 10) (hH : I_H np no td ho hp hl hh rf rt) (h : p < np) (h2 : o < no) (h3 : hp p = mI) (h4 : ho.testBit o = false) (h5 : td ≤ k) (h6 : k ≤ 9999) :
    I_H np no td (ho ||| 2 ^ o) (upd hp p (nI o)) (upd hl p (nI k)) (hh ||| nI (2 ^ o)) (upd rf p (nI o)) (upd rt p (nI k)) := by
  obtain ⟨rfl, k2, k3, k4, k5, k6, k7⟩ := hH
  have nh : ∀ q, q < 10 → ¬ hp q = nI o := fun q hq x => by
    by_cases y : q < np
    · have := (k7 o h2).mpr ⟨q, y, x⟩
      rw [h4] at this; cases this
    · rw [k4 q (by omega) hq, q_meq (by omega)] at x
      exact x
  refine ⟨q_or _ _, Nat.or_lt_two_pow k2 (Nat.pow_lt_pow_right (by decide) h2), fun q hq => ?_, fun q q1 q2 => ?_, fun q hq => ?_, fun a b ha hb hab x => ?_, fun o' ho' => ?_⟩
  · by_cases e : q = p
    · subst e
      rw [pk_us, pk_us, pk_us, if_neg (nI_nlt h5 (by omega))]
    · rw [pk_un e, pk_un e, pk_un e]; exact k3 q hq
  · rw [pk_un (by omega)]; exact k4 q q1 q2
  · by_cases e : q = p
    · subst e; exact Or.inr ⟨o, h2, pk_us, by rw [pk_us, pk_us]⟩
    · rw [pk_un e, pk_un e, pk_un e]; exact k5 q hq
  · by_cases e : a = p
    · subst e
      rw [pk_us, pk_un (fun z => hab z.symm)] at x
      exact absurd x.symm (nh b hb)
    · by_cases e2 : b = p
      · subst e2
        rw [pk_un e, pk_us] at x
        exact absurd x (nh a ha)
      · rw [pk_un e] at x ⊢
        rw [pk_un e2] at x
        exact k6 a b ha hb hab x
  · rw [Nat.testBit_or, Nat.testBit_two_pow]
    by_cases e : o = o'
    · subst e
      simp only [decide_true, Bool.or_true, true_iff]
      exact ⟨p, h, pk_us⟩
    · rw [decide_eq_false e, Bool.or_false, k7 o' ho']
      constructor
      · rintro ⟨q, q1, q2⟩
        have e2 : ¬ q = p := fun x => by
          subst x
          rw [h3, q_meq (by omega)] at q2
          exact q2
        exact ⟨q, q1, by rw [pk_un e2]; exact q2⟩
      · rintro ⟨q, q1, q2⟩
        have e2 : ¬ q = p := fun x => by
          subst x
          rw [pk_us, nI_eq (by omega) (by omega)] at q2
          exact e q2
        rw [pk_un e2] at q2
        exact ⟨q, q1, q2⟩
theorem k_11 {N np no td uo ho : Nat} {um : Nat → Nat} {t w l g d t' w' l' g' d' up du db hp hl rf rt : Nat → Int32} {uu hh : Int32} (hN : 11 ≤ N) (hB : I_B np (nI np) (nI np) t w l g d) (hB' : I_B no (nI no) (nI no) t' w' l' g' d') (hU : I_U np no um uo up uu du db) (hH : I_H np no td ho hp hl hh rf rt) (h1 : td ≤ 9999) (x1 x2 x3 : Int32) :
    ∃ hp' hl' hh' thr rf' rt' ho', m_L_case11 N t w l g (nI np) t' w' l' g' (nI no) up uu hp hl hh (nI td) (nI td) (nI np) (nI no) d d' du db rf rt x1 x2 x3 = some (hp', hl', hh', thr, rf', rt') ∧ I_H np no td ho' hp' hl' hh' rf' rt' := by
  have hnp := hB.1
  have hno := hB'.1
  unfold m_L_case11 m_L_reserve m_S_reserve m_S_refuseUnknownPair m_S_refuseUnknownPiece m_S_refuseMisfit m_D_reserve m_H_hold
  rcases e_isP hnp x1 with ⟨p, hp1, rfl, ed, ec⟩ | ⟨ed, ec⟩
  · rcases e_isO hno x2 with ⟨o, ho1, rfl, fd, fc⟩ | ⟨fd, fc⟩
    · have es := e_suits (t := t) (w := w) (l := l) (g := g) (t' := t') (w' := w') (l' := l') (g' := g') (p := p) (o := o) (by omega) (by omega)
      have ef := e_isFit hB hB' hp1 ho1
      obtain ⟨v1, v2, v3⟩ := hU.2.2.1 p (by omega)
      have hpu := e_pused (p := p) (um := um) (by omega) v1 (q_pw v2 hno (by omega))
      have hou := e_oused (uo := uo) (o := o) (q_pw hU.2.1 hno (by omega)) (by omega)
      have hph := e_pheld (hp := hp) (p := p) (by omega)
      have hoh := e_oheld (uo := ho) (o := o) (q_pw hH.2.1 hno (by omega)) (by omega)
      have hre := e_resv (p := p) (by omega) (hH.2.2.1 p hp1)
      have hu5 := hU.2.2.2.2 o ho1
      have hh7 := hH.2.2.2.2.2.2 o ho1
      have hhq := hH.1
      have huq := hU.1
      have hd : m_D_holder N (nI td) (nI np) rf rt (nI o) = some mI ∧ ho.testBit o = false ∨ ∃ q, q < np ∧ m_D_holder N (nI td) (nI np) rf rt (nI o) = some (nI q) ∧ ho.testBit o = true := by
        rcases e_holder (N := N) (o := o) hnp hH.2.2.1 (by omega) with ⟨q, z1, z2, z3, z4⟩ | ⟨z1, z2⟩
        · exact Or.inr ⟨q, z1, z4, hh7.mpr ⟨q, z1, z2⟩⟩
        · refine Or.inl ⟨z2, Bool.eq_false_iff.mpr (fun y => ?_)⟩
          obtain ⟨q, y1, y2⟩ := hh7.mp y
          exact z1 q y1 y2
      subst hhq huq
      by_cases c1 : um p = 0
      · rcases hu5 with ⟨w1, w2, w3⟩ | ⟨r, w1, w2, w3, w4⟩
        · rcases hH.2.2.2.2.1 p (by omega) with y | ⟨o', y1, y2, _⟩
          · rcases hd with ⟨z1, z2⟩ | ⟨q, z0, z1, z2⟩
            · rcases e_in (a := td) (b := 9999) (by omega) (by omega) x3 with ⟨k, hk1, hk2, rfl, i1⟩ | i1
              · cases hf : fitB t w l g t' w' l' g' p o with
                | true =>
                  refine ⟨upd hp p (nI o), upd hl p (nI k), nI ho ||| nI (2 ^ o), nI 0, upd rf p (nI o), upd rt p (nI k), ho ||| 2 ^ o, ?_, H_hold hno hnp hH hp1 ho1 y z2 hk1 hk2⟩
                  simp (maxSteps := 1000000) (disch := omega) only [q_lit, q_m1, q_m1', nI_add, pk_mul, pk_sub, q_sh, q_b1, q_b0, nI_leI, nI_ltI, nI_eq, nI_clamp, q_nle, q_le, q_nlt, q_lt, q_mlt, q_mle, q_ltm, q_lem, q_eqm, q_meq, Nat.not_lt_zero, or_false, false_or, or_true, true_or, and_true, true_and, false_and, and_false, if_true, if_false, ↓reduceIte, Option.bind_some, not_true, not_false_eq_true, e_wi, ed, ec, fd, fc, es, ef, hf, hpu, hou, hph, hoh, hre, v3, c1, w1, w2, y, z1, z2, i1, bI_0, ne_eq, decide_false, decide_true, Bool.true_eq_false, tk, tc, m_D_goes, m_D_thrown, Nat.one_ne_zero, Nat.reduceEqDiff]
                | false =>
                  refine ⟨hp, hl, nI ho, nI 4, rf, rt, ho, ?_, hH⟩
                  simp (maxSteps := 1000000) (disch := omega) only [q_lit, q_m1, q_m1', nI_add, pk_mul, pk_sub, q_sh, q_b1, q_b0, nI_leI, nI_ltI, nI_eq, nI_clamp, q_nle, q_le, q_nlt, q_lt, q_mlt, q_mle, q_ltm, q_lem, q_eqm, q_meq, Nat.not_lt_zero, or_false, false_or, or_true, true_or, and_true, true_and, false_and, and_false, if_true, if_false, ↓reduceIte, Option.bind_some, not_true, not_false_eq_true, e_wi, ed, ec, fd, fc, es, ef, hf, hpu, hou, hph, hoh, hre, v3, c1, w1, w2, y, z1, z2, i1, bI_0, ne_eq, decide_false, decide_true, Bool.true_eq_false, tk, tc, m_D_goes, m_D_thrown, Nat.one_ne_zero, Nat.reduceEqDiff]
              · refine ⟨hp, hl, nI ho, nI 3, rf, rt, ho, ?_, hH⟩
                cases hf : fitB t w l g t' w' l' g' p o
                · simp (maxSteps := 1000000) (disch := omega) only [q_lit, q_m1, q_m1', nI_add, pk_mul, pk_sub, q_sh, q_b1, q_b0, nI_leI, nI_ltI, nI_eq, nI_clamp, q_nle, q_le, q_nlt, q_lt, q_mlt, q_mle, q_ltm, q_lem, q_eqm, q_meq, Nat.not_lt_zero, or_false, false_or, or_true, true_or, and_true, true_and, false_and, and_false, if_true, if_false, ↓reduceIte, Option.bind_some, not_true, not_false_eq_true, e_wi, ed, ec, fd, fc, es, ef, hf, hpu, hou, hph, hoh, hre, v3, c1, w1, w2, y, z1, z2, i1, bI_0, ne_eq, decide_false, decide_true, Bool.true_eq_false, tk, tc, m_D_goes, m_D_thrown, Nat.one_ne_zero, Nat.reduceEqDiff]
                · simp (maxSteps := 1000000) (disch := omega) only [q_lit, q_m1, q_m1', nI_add, pk_mul, pk_sub, q_sh, q_b1, q_b0, nI_leI, nI_ltI, nI_eq, nI_clamp, q_nle, q_le, q_nlt, q_lt, q_mlt, q_mle, q_ltm, q_lem, q_eqm, q_meq, Nat.not_lt_zero, or_false, false_or, or_true, true_or, and_true, true_and, false_and, and_false, if_true, if_false, ↓reduceIte, Option.bind_some, not_true, not_false_eq_true, e_wi, ed, ec, fd, fc, es, ef, hf, hpu, hou, hph, hoh, hre, v3, c1, w1, w2, y, z1, z2, i1, bI_0, ne_eq, decide_false, decide_true, Bool.true_eq_false, tk, tc, m_D_goes, m_D_thrown, Nat.one_ne_zero, Nat.reduceEqDiff]
            · refine ⟨hp, hl, nI ho, nI 2, rf, rt, ho, ?_, hH⟩
              rcases e_in (a := td) (b := 9999) (by omega) (by omega) x3 with ⟨k, hk1, hk2, rfl, i1⟩ | i1
              all_goals cases hf : fitB t w l g t' w' l' g' p o
              all_goals simp (maxSteps := 1000000) (disch := omega) only [q_lit, q_m1, q_m1', nI_add, pk_mul, pk_sub, q_sh, q_b1, q_b0, nI_leI, nI_ltI, nI_eq, nI_clamp, q_nle, q_le, q_nlt, q_lt, q_mlt, q_mle, q_ltm, q_lem, q_eqm, q_meq, Nat.not_lt_zero, or_false, false_or, or_true, true_or, and_true, true_and, false_and, and_false, if_true, if_false, ↓reduceIte, Option.bind_some, not_true, not_false_eq_true, e_wi, ed, ec, fd, fc, es, ef, hf, hpu, hou, hph, hoh, hre, v3, c1, w1, w2, y, z1, z2, i1, bI_0, ne_eq, decide_false, decide_true, Bool.true_eq_false, tk, tc, m_D_goes, m_D_thrown, Nat.one_ne_zero, Nat.reduceEqDiff, Nat.zero_le]
          · refine ⟨hp, hl, nI ho, nI 2, rf, rt, ho, ?_, hH⟩
            rcases e_in (a := td) (b := 9999) (by omega) (by omega) x3 with ⟨k, hk1, hk2, rfl, i1⟩ | i1
            all_goals cases hf : fitB t w l g t' w' l' g' p o
            all_goals simp (maxSteps := 1000000) (disch := omega) only [q_lit, q_m1, q_m1', nI_add, pk_mul, pk_sub, q_sh, q_b1, q_b0, nI_leI, nI_ltI, nI_eq, nI_clamp, q_nle, q_le, q_nlt, q_lt, q_mlt, q_mle, q_ltm, q_lem, q_eqm, q_meq, Nat.not_lt_zero, or_false, false_or, or_true, true_or, and_true, true_and, false_and, and_false, if_true, if_false, ↓reduceIte, Option.bind_some, not_true, not_false_eq_true, e_wi, ed, ec, fd, fc, es, ef, hf, hpu, hou, hph, hoh, hre, v3, c1, w1, w2, y2, i1, bI_0, ne_eq, decide_false, decide_true, Bool.true_eq_false, tk, tc, m_D_goes, m_D_thrown, Nat.one_ne_zero, Nat.reduceEqDiff, Nat.zero_le]
        · refine ⟨hp, hl, nI ho, nI 2, rf, rt, ho, ?_, hH⟩
          rcases e_in (a := td) (b := 9999) (by omega) (by omega) x3 with ⟨k, hk1, hk2, rfl, i1⟩ | i1
          all_goals cases hf : fitB t w l g t' w' l' g' p o
          all_goals simp (maxSteps := 1000000) (disch := omega) only [q_lit, q_m1, q_m1', nI_add, pk_mul, pk_sub, q_sh, q_b1, q_b0, nI_leI, nI_ltI, nI_eq, nI_clamp, q_nle, q_le, q_nlt, q_lt, q_mlt, q_mle, q_ltm, q_lem, q_eqm, q_meq, Nat.not_lt_zero, or_false, false_or, or_true, true_or, and_true, true_and, false_and, and_false, if_true, if_false, ↓reduceIte, Option.bind_some, not_true, not_false_eq_true, e_wi, ed, ec, fd, fc, es, ef, hf, hpu, hou, v3, c1, w2, w3, i1, bI_0, ne_eq, decide_false, decide_true, Bool.true_eq_false, tk, tc, m_D_goes, m_D_thrown, Nat.one_ne_zero, Nat.reduceEqDiff, Nat.zero_le]
      · refine ⟨hp, hl, nI ho, nI 2, rf, rt, ho, ?_, hH⟩
        rcases e_in (a := td) (b := 9999) (by omega) (by omega) x3 with ⟨k, hk1, hk2, rfl, i1⟩ | i1
        all_goals cases hf : fitB t w l g t' w' l' g' p o
        all_goals simp (maxSteps := 1000000) (disch := omega) only [q_lit, q_m1, q_m1', nI_add, pk_mul, pk_sub, q_sh, q_b1, q_b0, nI_leI, nI_ltI, nI_eq, nI_clamp, q_nle, q_le, q_nlt, q_lt, q_mlt, q_mle, q_ltm, q_lem, q_eqm, q_meq, Nat.not_lt_zero, or_false, false_or, or_true, true_or, and_true, true_and, false_and, and_false, if_true, if_false, ↓reduceIte, Option.bind_some, not_true, not_false_eq_true, e_wi, ed, ec, fd, fc, es, ef, hf, hpu, v3, c1, i1, bI_0, ne_eq, decide_false, decide_true, Bool.true_eq_false, tk, tc, m_D_goes, m_D_thrown, Nat.one_ne_zero, Nat.reduceEqDiff, Nat.zero_le]
    · refine ⟨hp, hl, hh, nI 1, rf, rt, ho, ?_, hH⟩
      rcases e_in (a := td) (b := 9999) (by omega) (by omega) x3 with ⟨k, hk1, hk2, rfl, i1⟩ | i1
      all_goals simp (maxSteps := 1000000) (disch := omega) only [q_lit, q_m1, q_m1', nI_add, pk_mul, pk_sub, q_sh, q_b1, q_b0, nI_leI, nI_ltI, nI_eq, nI_clamp, q_nle, q_le, q_nlt, q_lt, q_mlt, q_mle, q_ltm, q_lem, q_eqm, q_meq, Nat.not_lt_zero, or_false, false_or, or_true, true_or, and_true, true_and, false_and, and_false, if_true, if_false, ↓reduceIte, Option.bind_some, not_true, not_false_eq_true, e_wi, ed, ec, fd, fc, i1, tk, tc, m_D_goes, m_D_thrown, Nat.one_ne_zero, Nat.reduceEqDiff]
  · refine ⟨hp, hl, hh, nI 1, rf, rt, ho, ?_, hH⟩
    rcases e_in (a := td) (b := 9999) (by omega) (by omega) x3 with ⟨k, hk1, hk2, rfl, i1⟩ | i1
    all_goals simp (maxSteps := 1000000) (disch := omega) only [q_lit, q_m1, q_m1', nI_add, pk_mul, pk_sub, q_sh, q_b1, q_b0, nI_leI, nI_ltI, nI_eq, nI_clamp, q_nle, q_le, q_nlt, q_lt, q_mlt, q_mle, q_ltm, q_lem, q_eqm, q_meq, Nat.not_lt_zero, or_false, false_or, or_true, true_or, and_true, true_and, false_and, and_false, if_true, if_false, ↓reduceIte, Option.bind_some, not_true, not_false_eq_true, e_wi, ed, ec, i1, tk, tc, m_D_goes, m_D_thrown, Nat.one_ne_zero, Nat.reduceEqDiff]
theorem H_tick {N np no td td' ho : Nat} {hp hl rf rt : Nat → Int32} {hh : Int32} (hN : 11 ≤ N) (hno : no ≤ 10) (hnp : np ≤ 10) (hH : I_H np no td ho hp hl hh rf rt) (h1 : td ≤ td') (h2 : td' ≤ 9999) :
    ∃ hp' hh' ho', m_H_dropBefore N hp hl hh (nI td') = some (hp', hh') ∧ I_H np no td' ho' hp' hl hh' rf rt := by
  unfold m_H_dropBefore
  obtain ⟨s, e, ho', rf', hH', hs⟩ := lpU (fun n i (s : (Nat → Int32) × Int32) => L_H_dropBefore_2 N hl (fun y1a y2a h_orderOfPiecea h_heldOrdersa => some (h_orderOfPiecea, h_heldOrdersa)) n (nI td') (nI i) s.1 s.2) (fun s => some (s.1, s.2))
    (fun i s => ∃ ho' rf', I_H np no td ho' s.1 hl s.2 rf' rt ∧ ∀ q, q < 10 → s.1 q = if q < i ∧ hl q < nI td' then mI else hp q) 10
    (fun n s _ => by
      simp only [L_H_dropBefore_2]
      simp (disch := omega) only [q_lit, q_m1, q_m1', nI_add, pk_mul, pk_sub, q_sh, q_b1, q_b0, nI_leI, nI_ltI, nI_eq, nI_clamp, q_nle, q_le, q_nlt, q_lt, q_mlt, q_mle, q_ltm, q_lem, q_eqm, q_meq, Nat.not_lt_zero, or_false, false_or, or_true, true_or, and_true, true_and, false_and, and_false, if_true, if_false, ↓reduceIte, Option.bind_some, not_true, not_false_eq_true])
    (fun n i s hi ⟨ho', rf', hH', hs⟩ => by
      by_cases c : nI td' ≤ hl i
      · refine ⟨s, ?_, ho', rf', hH', fun q hq => ?_⟩
        · simp only [L_H_dropBefore_2]
          simp (disch := omega) only [q_lit, q_m1, q_m1', nI_add, pk_mul, pk_sub, q_sh, q_b1, q_b0, nI_leI, nI_ltI, nI_eq, nI_clamp, q_nle, q_le, q_nlt, q_lt, q_mlt, q_mle, q_ltm, q_lem, q_eqm, q_meq, Nat.not_lt_zero, or_false, false_or, or_true, true_or, and_true, true_and, false_and, and_false, if_true, if_false, ↓reduceIte, Option.bind_some, not_true, not_false_eq_true, c]
        · rw [hs q hq]
          by_cases e : q = i
          · subst e
            have : ¬ hl q < nI td' := Int32.not_lt.mpr c
            rw [if_neg (fun z => this z.2), if_neg (fun z => this z.2)]
          · by_cases r : q < i ∧ hl q < nI td'
            · rw [if_pos r, if_pos ⟨by omega, r.2⟩]
            · rw [if_neg r, if_neg (fun z => r ⟨by omega, z.2⟩)]
      · have c' : hl i < nI td' := Int32.not_le.mp c
        have hst : ∀ q, q < 10 → upd s.1 i mI q = if q < i + 1 ∧ hl q < nI td' then mI else hp q := fun q hq => by
          by_cases e : q = i
          · subst e; rw [pk_us, if_pos ⟨by omega, c'⟩]
          · rw [pk_un e, hs q hq]
            by_cases r : q < i ∧ hl q < nI td'
            · rw [if_pos r, if_pos ⟨by omega, r.2⟩]
            · rw [if_neg r, if_neg (fun z => r ⟨by omega, z.2⟩)]
        refine ⟨(upd s.1 i mI, if s.1 i = mI then s.2 else s.2 &&& ((nI 1 <<< (s.1 i &&& nI 31)) ^^^ mI)), ?_, ?_⟩
        · simp only [L_H_dropBefore_2]
          simp (disch := omega) only [q_lit, q_m1, q_m1', nI_add, pk_mul, pk_sub, q_sh, q_b1, q_b0, nI_leI, nI_ltI, nI_eq, nI_clamp, q_nle, q_le, q_nlt, q_lt, q_mlt, q_mle, q_ltm, q_lem, q_eqm, q_meq, Nat.not_lt_zero, or_false, false_or, or_true, true_or, and_true, true_and, false_and, and_false, if_true, if_false, ↓reduceIte, Option.bind_some, not_true, not_false_eq_true, c, e_drop hi]
        · by_cases hin : i < np
          · obtain ⟨ho2, j1, _⟩ := H_drop hno hnp hH' hin
            exact ⟨ho2, upd rf' i mI, j1, hst⟩
          · have y : s.1 i = mI := hH'.2.2.2.1 i (by omega) hi
            refine ⟨ho', rf', ?_, hst⟩
            simp only [if_pos y, upd_id y]
            exact hH') N 0 (hp, hh) (by omega) (by omega) ⟨ho, rf, hH, fun q hq => by rw [if_neg (by omega)]⟩
  refine ⟨s.1, s.2, ho', e, ?_⟩
  obtain ⟨k1, k2, k3, k4, k5, k6, k7⟩ := hH'
  refine ⟨k1, k2, fun q hq => ?_, k4, k5, k6, k7⟩
  have a1 := hs q (by omega)
  have a2 := hH.2.2.1 q hq
  have m1 : ∀ z : Int32, z < nI td → z < nI td' := fun z hz => by
    have := Int32.lt_iff_toInt_lt.mp hz
    rw [nI_toInt (by omega)] at this
    refine Int32.lt_iff_toInt_lt.mpr ?_
    rw [nI_toInt (by omega)]
    omega
  rcases hH.2.2.2.2.1 q (by omega) with y | ⟨o, y1, y2, y3⟩
  · have b1 : s.1 q = mI := by rw [a1, y]; split <;> rfl
    rw [b1]
    by_cases c : rt q < nI td'
    · rw [if_pos c]
    · rw [if_neg c]
      rw [if_neg (fun z => c (m1 _ z)), y] at a2
      exact a2
  · have b2 : ¬ rt q < nI td := fun z => by
      rw [if_pos z, y2, q_eqm (by omega)] at a2
      exact a2
    rw [if_neg b2] at a2
    rw [a1, y3, a2]
    by_cases c : hl q < nI td'
    · rw [if_pos ⟨by omega, c⟩, if_pos c]
    · rw [if_neg (fun z => c z.2), if_neg c]
theorem k_15 {N np no td ho : Nat} {hp hl rf rt : Nat → Int32} {hh : Int32} (hN : 11 ≤ N) (hnp : np ≤ 10) (hno : no ≤ 10) (hH : I_H np no td ho hp hl hh rf rt) (h1 : td ≤ 9999) (jo : Nat → Int64) (x1 : Int32) :
    ∃ td' hp' hh' jo' thr ho', m_L_case15 N hp hl hh (nI td) (nI td) jo x1 = some (nI td', hp', hh', jo', thr, nI td') ∧ td ≤ td' ∧ td' ≤ 9999 ∧ I_H np no td' ho' hp' hl hh' rf rt := by
  unfold m_L_case15 m_L_tick m_S_tick m_D_tick
  rcases e_in (a := 1) (b := 1000) (by omega) (by omega) x1 with ⟨k, hk1, hk2, rfl, i1⟩ | i1
  · by_cases c : td + k ≤ 9999
    · obtain ⟨hp', hh', ho', e, hH'⟩ := H_tick (N := N) (td' := td + k) hN hno hnp hH (by omega) c
      refine ⟨td + k, hp', hh', vp_updL jo 0 (lN (td + k)), nI 0, ho', ?_, by omega, c, hH'⟩
      simp (disch := omega) only [q_lit, q_m1, q_m1', nI_add, pk_mul, pk_sub, q_sh, q_b1, q_b0, nI_leI, nI_ltI, nI_eq, nI_clamp, q_nle, q_le, q_nlt, q_lt, q_mlt, q_mle, q_ltm, q_lem, q_eqm, q_meq, Nat.not_lt_zero, or_false, false_or, or_true, true_or, and_true, true_and, false_and, and_false, if_true, if_false, ↓reduceIte, Option.bind_some, not_true, not_false_eq_true, e_wi, i1, e, tk, tc, m_D_goes, m_D_thrown, Nat.one_ne_zero, Nat.reduceEqDiff, nI_l, pk_uLs, q_ceq]
    · refine ⟨td, hp, hh, jo, nI 1, ho, ?_, by omega, h1, hH⟩
      simp (disch := omega) only [q_lit, q_m1, q_m1', nI_add, pk_mul, pk_sub, q_sh, q_b1, q_b0, nI_leI, nI_ltI, nI_eq, nI_clamp, q_nle, q_le, q_nlt, q_lt, q_mlt, q_mle, q_ltm, q_lem, q_eqm, q_meq, Nat.not_lt_zero, or_false, false_or, or_true, true_or, and_true, true_and, false_and, and_false, if_true, if_false, ↓reduceIte, Option.bind_some, not_true, not_false_eq_true, e_wi, i1, tk, tc, m_D_goes, m_D_thrown, Nat.one_ne_zero, Nat.reduceEqDiff]
  · refine ⟨td, hp, hh, jo, nI 1, ho, ?_, by omega, h1, hH⟩
    simp (disch := omega) only [q_lit, q_m1, q_m1', nI_add, pk_mul, pk_sub, q_sh, q_b1, q_b0, nI_leI, nI_ltI, nI_eq, nI_clamp, q_nle, q_le, q_nlt, q_lt, q_mlt, q_mle, q_ltm, q_lem, q_eqm, q_meq, Nat.not_lt_zero, or_false, false_or, or_true, true_or, and_true, true_and, false_and, and_false, if_true, if_false, ↓reduceIte, Option.bind_some, not_true, not_false_eq_true, e_wi, i1, tk, tc, m_D_goes, m_D_thrown, Nat.one_ne_zero, Nat.reduceEqDiff]
