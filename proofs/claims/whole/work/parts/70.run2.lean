/-! Own rows: run, the reference's last loop and the whole. -/
theorem mayB_t {um : Nat → Nat} {uo ho : Nat} {hp : Nat → Int32} {fit : Nat → Nat → Bool} {p o : Nat} (h : mayB um uo ho hp fit p o = true) : um p = 0 ∧ uo.testBit o = false ∧ (hp p = nI o ∨ hp p = mI ∧ ho.testBit o = false) ∧ fit p o = true := by
  unfold mayB at h
  simpa [and_assoc] using h
theorem e_126 {N np no td uo0 ho0 : Nat} {ct ag y1 thr ran sum c dc c' dc' : Int32} {um0 : Nat → Nat} {t w l gr t' w' l' gr' d d' dcm dw du db rf rt dpd dod hl : Nat → Int32} {tab : Nat → Int64} {my : Nat → Nat → Bool} {nt : Nat → Nat → Nat} {s0 : CS} {K : _} {Q : _ → Prop} (hN : 11 ≤ N) (hB : I_B np c dc t w l gr d) (hB' : I_B no c' dc' t' w' l' gr' d') (hnt : ∀ p o, p < np → o < no → nt p o ≤ 1000000)
    (hU0 : I_U np no um0 uo0 s0.1 s0.2.1 du db) (hH0 : I_H np no td ho0 s0.2.2.1 hl s0.2.2.2 rf rt) (hmy : ∀ q o, q < np → o < no → mayB um0 uo0 ho0 s0.2.2.1 (fitB t w l gr t' w' l' gr') q o = my q o)
    (hw : ∀ p o, p < np → o < no → m_D_netOf (nI td) ct ag d d' dcm dw (nI p) (nI o) = some (nI (nt p o)))
    (ht : ∀ q s, q ≤ np → s < 1024 → tab (1024 * q + s) = lN (TT (gf my nt) no np (np - q) s.testBit)) (hod : ∀ o, o < no → dod o = odN (gf my nt) no np o) (hpd : ∀ q, q < 10 → dpd q = nI 0)
    (hQ : ∀ y2 du' db' rf' dpd' um uo ho, I_U np no um uo (stC (gf my nt) no np s0 np).1 (stC (gf my nt) no np s0 np).2.1 du' db' → I_H np no td ho (stC (gf my nt) no np s0 np).2.2.1 hl (stC (gf my nt) no np s0 np).2.2.2 rf' rt → (∀ q, q < np → dpd' q = pdN (gf my nt) no np q) → Q (K y1 y2 (nI (TT (gf my nt) no np np (fun _ => false) % 16)) (nI np) thr du' db' rf' ran sum dpd' dod tab)) :
    Q (L_D_run_126 N (nI td) ct ag (nI np) (nI no) d d' dcm dw rt K N y1 (nI 0) (nI 0) (nI 0) thr du db rf ran sum dpd dod tab) := by
  have hnp := hB.1
  have hno := hB'.1
  have hv : vp_nar .boolean 1 = nI 1 := by decide +kernel
  obtain ⟨s', e, S, m, wt, um, uo, ho, i1, i2, i3, i4, i5, i6, i7, i8, i9, i10, i11⟩ := lpU (fun n i (s : Int32 × Int32 × (Nat → Int32) × (Nat → Int32) × (Nat → Int32) × (Nat → Int32)) => L_D_run_126 N (nI td) ct ag (nI np) (nI no) d d' dcm dw rt K n y1 s.1 s.2.1 (nI i) thr s.2.2.1 s.2.2.2.1 s.2.2.2.2.1 ran sum s.2.2.2.2.2 dod tab)
    (fun s => K y1 s.1 s.2.1 (nI np) thr s.2.2.1 s.2.2.2.1 s.2.2.2.2.1 ran sum s.2.2.2.2.2 dod tab)
    (fun p s => ∃ (S m wt : Nat) (um : Nat → Nat) (uo ho : Nat), s.1 = nI S ∧ S < 1024 ∧ (∀ k, k < no → S.testBit k = chS (gf my nt) no np p k) ∧ s.2.1 = nI m ∧ m ≤ p ∧ I_U np no um uo (stC (gf my nt) no np s0 p).1 (stC (gf my nt) no np s0 p).2.1 s.2.2.1 s.2.2.2.1 ∧ I_H np no td ho (stC (gf my nt) no np s0 p).2.2.1 hl (stC (gf my nt) no np s0 p).2.2.2 s.2.2.2.2.1 rt ∧
      (∀ q o, p ≤ q → q < np → o < no → chS (gf my nt) no np p o = false → mayB um uo ho (stC (gf my nt) no np s0 p).2.2.1 (fitB t w l gr t' w' l' gr') q o = my q o) ∧ TT (gf my nt) no np np (fun _ => false) = TT (gf my nt) no np (np - p) (chS (gf my nt) no np p) + 16 * wt + m ∧ (∀ q, q < p → s.2.2.2.2.2 q = pdN (gf my nt) no np q) ∧ ∀ q, p ≤ q → q < 10 → s.2.2.2.2.2 q = nI 0) np
    (fun n s _ => by
      simp only [L_D_run_126]
      simp (disch := omega) only [q_lit, q_m1, q_m1', nI_add, pk_mul, pk_sub, q_sh, q_b1, q_b0, nI_leI, nI_ltI, nI_eq, nI_clamp, q_nle, q_le, q_nlt, q_lt, q_mlt, q_mle, q_ltm, q_lem, q_eqm, q_meq, Nat.not_lt_zero, or_false, false_or, or_true, true_or, and_true, true_and, false_and, and_false, if_true, if_false, ↓reduceIte, Option.bind_some, not_true, not_false_eq_true])
    (fun n p s hp ⟨S, m, wt, um, uo, ho, i1, i2, i3, i4, i5, i6, i7, i8, i9, i10, i11⟩ => by
      obtain ⟨z1, z2, du, db, rf, dpd⟩ := s
      simp only at i1 i4 i6 i7 i10 i11
      subst i1 i4
      have hlow : lowP (ckB (gf my nt) no np p S.testBit) no = chO (gf my nt) no np p := lowP_congr (ckB_congr i3)
      have hcan : ∀ o, o < no → S.testBit o = false → m_D_can N (nI td) (nI np) d d' du db rf rt (nI p) (nI o) = some (bI (my p o)) := fun o ho1 hs => by
        rw [e_can (N := N) (by omega) hB hB' i6 i7 hp ho1, i8 p o (Nat.le_refl _) hp ho1 (by rw [← i3 o ho1]; exact hs)]
      cases hcc : chO (gf my nt) no np p with
      | none =>
        refine ⟨(nI S, nI m, du, db, rf, dpd), ?_, S, m, wt, um, uo, ho, rfl, i2, ?_, rfl, by omega, ?_, ?_, ?_, ?_, ?_, ?_⟩
        · simp only [L_D_run_126]
          rw [if_neg (nI_ge hp (by omega))]
          refine (e_146 hN hnp hno hp i2 hnt hcan hw ht).trans ?_
          rw [hlow, hcc]
          simp (disch := omega) only [q_lit, q_m1, q_m1', nI_add, pk_mul, pk_sub, q_sh, q_b1, q_b0, nI_leI, nI_ltI, nI_eq, nI_clamp, q_nle, q_le, q_nlt, q_lt, q_mlt, q_mle, q_ltm, q_lem, q_eqm, q_meq, Nat.not_lt_zero, or_false, false_or, or_true, true_or, and_true, true_and, false_and, and_false, if_true, if_false, ↓reduceIte, Option.bind_some, not_true, not_false_eq_true, opI]
        · rw [chS_n hcc]; exact i3
        · rw [stC_n hcc]; exact i6
        · rw [stC_n hcc]; exact i7
        · rw [stC_n hcc, chS_n hcc]; exact fun q o h1 h2 h3 h4 => i8 q o (by omega) h2 h3 h4
        · rw [chS_n hcc, chO_n hp hcc]; exact i9
        · intro q hq
          by_cases x : q = p
          · subst x; rw [pdN_n hcc]; exact i11 q (Nat.le_refl _) (by omega)
          · exact i10 q (by omega)
        · exact fun q h1 h2 => i11 q (by omega) h2
      | some o =>
        obtain ⟨o1, o2, o3, o4⟩ := chO_s hcc
        have hm : my p o = true := by
          cases x : my p o with
          | true => rfl
          | false => unfold gf at o2; rw [x] at o2; simp at o2
        have hg : gf my nt p o = nt p o * 16 + 1 := by unfold gf; rw [hm]; rfl
        have hmb := i8 p o (Nat.le_refl _) hp o1 o3
        rw [hm] at hmb
        obtain ⟨m1, m2, m3, _⟩ := mayB_t hmb
        have hnb := hnt p o hp o1
        have hb2 : 2 ^ o < 2 ^ no := Nat.pow_lt_pow_right (by decide) o1
        have hb0 := q_p0' o
        obtain ⟨ho', j1, j2⟩ := H_drop hno hnp i7 hp
        have jU := U_cut (s := 2 ^ o) (db' := upd db o (nI p)) i6 hp m1 hb2 (by omega) (fun k hk h => by
          rw [Nat.testBit_two_pow] at h
          have := of_decide_eq_true h
          subst this; exact m2) (fun k hk => by
          rw [Nat.testBit_two_pow]
          by_cases x : k = o
          · subst x; rw [pk_us, if_pos (decide_eq_true rfl)]
          · rw [pk_un x, if_neg (fun y => x (of_decide_eq_true y).symm)])
        refine ⟨(nI (S ||| 2 ^ o), nI (m + 1), upd du p (nI 1), upd db o (nI p), upd rf p mI, upd dpd p (nI (nt p o) - dod o)), ?_, S ||| 2 ^ o, m + 1, wt + nt p o, fun q => if q = p then 2 ^ o else um q, uo ||| 2 ^ o, ho', rfl, q_orl i2 (by omega), ?_, rfl, by omega, ?_, ?_, ?_, ?_, ?_, ?_⟩
        · simp only [L_D_run_126]
          rw [if_neg (nI_ge hp (by omega))]
          refine (e_146 hN hnp hno hp i2 hnt hcan hw ht).trans ?_
          rw [hlow, hcc]
          simp only [opI, hv]
          simp (disch := omega) only [q_lit, q_m1, q_m1', nI_add, pk_mul, pk_sub, q_sh, q_b1, q_b0, nI_leI, nI_ltI, nI_eq, nI_clamp, q_nle, q_le, q_nlt, q_lt, q_mlt, q_mle, q_ltm, q_lem, q_eqm, q_meq, Nat.not_lt_zero, or_false, false_or, or_true, true_or, and_true, true_and, false_and, and_false, if_true, if_false, ↓reduceIte, Option.bind_some, not_true, not_false_eq_true, q_or, hw p o hp o1]
        · intro k hk
          rw [chS_s hcc, ← st_or]
          unfold st
          rw [i3 k hk]
        · rw [stC_s hcc]; exact jU
        · rw [stC_s hcc]; exact j1
        · rw [stC_s hcc, chS_s hcc]
          intro q k h1 h2 h3 h4
          have hko : ¬ k = o := fun x => by unfold st at h4; rw [if_pos x] at h4; cases h4
          have h4' : chS (gf my nt) no np p k = false := by unfold st at h4; rw [if_neg hko] at h4; exact h4
          rw [← i8 q k (by omega) h2 h3 h4']
          have hqp : ¬ q = p := by omega
          have hhp : ¬ (stC (gf my nt) no np s0 p).2.2.1 p = nI k := fun x => by
            rcases m3 with y | ⟨y, _⟩
            · rw [y, nI_eq (by omega) (by omega)] at x; exact hko x.symm
            · rw [y, q_meq (by omega)] at x; exact x
          unfold mayB cutF
          simp only [if_neg hqp, pk_un hqp]
          rw [j2 k h3, decide_eq_false hhp, Bool.not_false, Bool.and_true, Nat.testBit_or, Nat.testBit_two_pow, decide_eq_false (show ¬ o = k from fun x => hko x.symm), Bool.or_false]
        · rw [chS_s hcc]
          rw [hg] at o4
          omega
        · intro q hq
          by_cases x : q = p
          · subst x
            rw [pdN_s hcc, hg, ← hod o o1]
            show upd dpd q _ q = _
            rw [pk_us]
            exact congrArg (fun z => nI z - dod o) (by omega)
          · show upd dpd p _ q = _
            rw [pk_un x]; exact i10 q (by omega)
        · intro q h1 h2
          show upd dpd p _ q = _
          rw [pk_un (by omega)]; exact i11 q (by omega) h2) N 0 (nI 0, nI 0, du, db, rf, dpd) (by omega) (by omega) ⟨0, 0, 0, um0, uo0, ho0, rfl, by omega, fun k _ => Nat.zero_testBit k, rfl, by omega, hU0, hH0, fun q o _ h2 h3 _ => hmy q o h2 h3, rfl, fun q hq => by omega, fun q _ h2 => hpd q h2⟩
  have e' : L_D_run_126 N (nI td) ct ag (nI np) (nI no) d d' dcm dw rt K N y1 (nI 0) (nI 0) (nI 0) thr du db rf ran sum dpd dod tab = _ := e
  rw [e', i4]
  have h0 : TT (gf my nt) no np (np - np) (chS (gf my nt) no np np) = 0 := by rw [Nat.sub_self]; rfl
  have hm : m = TT (gf my nt) no np np (fun _ => false) % 16 := by omega
  rw [hm]
  exact hQ s'.1 s'.2.2.1 s'.2.2.2.1 s'.2.2.2.2.1 s'.2.2.2.2.2 um uo ho i6 i7 i10
theorem d_7 {N : Nat} {thr ran sum : Int32} {du db rf dpd dod : Nat → Int32} {tab : Nat → Int64} {K : _} {Q : _ → Prop} (hN : 11 ≤ N) (hQ : ∀ dod', Q (K (nI 10) thr du db rf ran sum dpd dod' tab)) : Q (L_D_run_7 N K N (nI 0) thr du db rf ran sum dpd dod tab) := by
  obtain ⟨s', e, _⟩ := lpU (fun n i s => L_D_run_7 N K n (nI i) thr du db rf ran sum dpd s tab) (fun s => K (nI 10) thr du db rf ran sum dpd s tab) (fun _ _ => True) 10
    (fun n s _ => by
      simp only [L_D_run_7]
      simp (disch := omega) only [q_lit, q_m1, q_m1', nI_add, pk_mul, pk_sub, q_sh, q_b1, q_b0, nI_leI, nI_ltI, nI_eq, nI_clamp, q_nle, q_le, q_nlt, q_lt, q_mlt, q_mle, q_ltm, q_lem, q_eqm, q_meq, Nat.not_lt_zero, or_false, false_or, or_true, true_or, and_true, true_and, false_and, and_false, if_true, if_false, ↓reduceIte, Option.bind_some, not_true, not_false_eq_true])
    (fun n i s hi _ => by
      refine ⟨upd s i (nI 0), ?_, trivial⟩
      simp only [L_D_run_7]
      simp (disch := omega) only [q_lit, q_m1, q_m1', nI_add, pk_mul, pk_sub, q_sh, q_b1, q_b0, nI_leI, nI_ltI, nI_eq, nI_clamp, q_nle, q_le, q_nlt, q_lt, q_mlt, q_mle, q_ltm, q_lem, q_eqm, q_meq, Nat.not_lt_zero, or_false, false_or, or_true, true_or, and_true, true_and, false_and, and_false, if_true, if_false, ↓reduceIte, Option.bind_some, not_true, not_false_eq_true]) N 0 dod (by omega) (by omega) trivial
  have e' : L_D_run_7 N K N (nI 0) thr du db rf ran sum dpd dod tab = _ := e
  rw [e']
  exact hQ s'
theorem d_28 {N : Nat} {thr ran sum : Int32} {du db rf dpd dod : Nat → Int32} {tab : Nat → Int64} {K : _} {Q : _ → Prop} (hN : 11 ≤ N) (hQ : ∀ dpd', (∀ q, q < 10 → dpd' q = nI 0) → Q (K (nI 10) thr du db rf ran sum dpd' dod tab)) : Q (L_D_run_28 N K N (nI 0) thr du db rf ran sum dpd dod tab) := by
  obtain ⟨s', e, h⟩ := lpU (fun n i s => L_D_run_28 N K n (nI i) thr du db rf ran sum s dod tab) (fun s => K (nI 10) thr du db rf ran sum s dod tab) (fun i s => ∀ q, q < i → s q = nI 0) 10
    (fun n s _ => by
      simp only [L_D_run_28]
      simp (disch := omega) only [q_lit, q_m1, q_m1', nI_add, pk_mul, pk_sub, q_sh, q_b1, q_b0, nI_leI, nI_ltI, nI_eq, nI_clamp, q_nle, q_le, q_nlt, q_lt, q_mlt, q_mle, q_ltm, q_lem, q_eqm, q_meq, Nat.not_lt_zero, or_false, false_or, or_true, true_or, and_true, true_and, false_and, and_false, if_true, if_false, ↓reduceIte, Option.bind_some, not_true, not_false_eq_true])
    (fun n i s hi h => by
      refine ⟨upd s i (nI 0), ?_, fun q hq => ?_⟩
      · simp only [L_D_run_28]
        simp (disch := omega) only [q_lit, q_m1, q_m1', nI_add, pk_mul, pk_sub, q_sh, q_b1, q_b0, nI_leI, nI_ltI, nI_eq, nI_clamp, q_nle, q_le, q_nlt, q_lt, q_mlt, q_mle, q_ltm, q_lem, q_eqm, q_meq, Nat.not_lt_zero, or_false, false_or, or_true, true_or, and_true, true_and, false_and, and_false, if_true, if_false, ↓reduceIte, Option.bind_some, not_true, not_false_eq_true]
      · by_cases x : q = i
        · subst x; exact pk_us
        · rw [pk_un x]; exact h q (by omega)) N 0 dpd (by omega) (by omega) (fun q hq => by omega)
  have e' : L_D_run_28 N K N (nI 0) thr du db rf ran sum dpd dod tab = _ := e
  rw [e']
  exact hQ s' h
theorem gx_f (g : Nat → Nat → Nat) : gx (fun _ => false) g = g := by
  funext p o
  unfold gx
  exact if_neg (show ¬ (false = true) by decide)
theorem d_66 {N np no : Nat} {td ct ag y1 thr ran sum : Int32} {d d' dcm dw du db rf rt dpd dod : Nat → Int32} {tab : Nat → Int64} {my : Nat → Nat → Bool} {nt : Nat → Nat → Nat} {K : _} {Q : _ → Prop} (hN : 1025 ≤ N) (hnp : np ≤ 10) (hno : no ≤ 10) (hnt : ∀ p o, p < np → o < no → nt p o ≤ 1000000)
    (hc : ∀ p o, p < np → o < no → m_D_can N td (nI np) d d' du db rf rt (nI p) (nI o) = some (bI (my p o))) (hw : ∀ p o, p < np → o < no → m_D_netOf td ct ag d d' dcm dw (nI p) (nI o) = some (nI (nt p o)))
    (hy : y1 = nI (TT (gf my nt) no np np (fun _ => false) / 16)) (hQ : ∀ dod' tab', (∀ o, o < no → dod' o = odN (gf my nt) no np o) → Q (K y1 (nI no) thr du db rf ran sum dpd dod' tab')) :
    Q (L_D_run_66 N td ct ag (nI np) (nI no) d d' dcm dw rt K N y1 (nI 0) thr du db rf ran sum dpd dod tab) := by
  have hgb : ∀ p o, p < np → o < no → gf my nt p o ≤ 16000001 := fun p o h1 h2 => by unfold gf; have := hnt p o h1 h2; split <;> omega
  obtain ⟨s', e, h⟩ := lpU (fun n i (s : (Nat → Int32) × (Nat → Int64)) => L_D_run_66 N td ct ag (nI np) (nI no) d d' dcm dw rt K n y1 (nI i) thr du db rf ran sum dpd s.1 s.2) (fun s => K y1 (nI no) thr du db rf ran sum dpd s.1 s.2) (fun i s => ∀ o, o < i → s.1 o = odN (gf my nt) no np o) no
    (fun n s _ => by
      simp only [L_D_run_66]
      simp (disch := omega) only [q_lit, q_m1, q_m1', nI_add, pk_mul, pk_sub, q_sh, q_b1, q_b0, nI_leI, nI_ltI, nI_eq, nI_clamp, q_nle, q_le, q_nlt, q_lt, q_mlt, q_mle, q_ltm, q_lem, q_eqm, q_meq, Nat.not_lt_zero, or_false, false_or, or_true, true_or, and_true, true_and, false_and, and_false, if_true, if_false, ↓reduceIte, Option.bind_some, not_true, not_false_eq_true])
    (fun n i s hi h => by
      obtain ⟨t', e1, h1⟩ := e_fill (ex := fun k => decide (k = i)) s.2 hN hnp hno hnt hc hw (x1 := nI i) (fun o ho => by rw [nI_eq (by omega) (by omega)]; exact (decide_eq_true_iff).symm)
      have h2 : t' 0 = lN (TT (gf my nt) no np np (fun k => decide (k = i))) := by
        have h3 := h1 0 0 (by omega) (by omega)
        have h4 : TT (gx (fun k => decide (k = i)) (gf my nt)) no np np (Nat.testBit 0) = TT (gf my nt) no np np (fun k => decide (k = i)) := by
          refine (TT_ex (gf my nt) (fun k => decide (k = i)) no np np (Nat.testBit 0)).trans (TT_congr _ _ _ _ _ _ (fun k _ => ?_))
          simp only [Nat.zero_testBit, Bool.false_or]
        rw [← h4]
        exact h3
      have hb := TT_bd (gf my nt) 16000001 no np hgb np (Nat.le_refl _) (fun k => decide (k = i))
      have h5 : (t' 0 / 16).toInt32 = nI (TT (gf my nt) no np np (fun k => decide (k = i)) / 16) := by
        rw [h2]
        show (lN _ / lN 16).toInt32 = _
        rw [pk_lDiv (by omega) (by omega) (by omega), lN_i]
      refine ⟨(upd s.1 i (odN (gf my nt) no np i), t'), ?_, fun o ho => ?_⟩
      · simp only [L_D_run_66]
        rw [if_neg (nI_ge hi (by omega)), e1]
        simp only [Option.bind_some]
        rw [if_neg (nI_in (N := 10) (show i < 10 by omega) (by omega)), nI_clamp (show i < 2 ^ 31 by omega), pk_cl 0, h5, nI_1, hy]
        rfl
      · show upd s.1 i _ o = _
        by_cases x : o = i
        · subst x; exact pk_us
        · rw [pk_un x]; exact h o (by omega)) N 0 (dod, tab) (by omega) (by omega) (fun q hq => by omega)
  have e' : L_D_run_66 N td ct ag (nI np) (nI no) d d' dcm dw rt K N y1 (nI 0) thr du db rf ran sum dpd dod tab = _ := e
  rw [e']
  exact hQ s'.1 s'.2 h
