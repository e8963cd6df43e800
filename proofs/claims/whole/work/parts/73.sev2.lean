/-! Own rows: several, the reference; the law's case. -/
theorem e_78 {N no p s opn : Nat} {td ct ag np y2 y3 y4 y5 thr : Int32} {d d' dcm dw du db rf rt : Nat → Int32} {my : Nat → Nat → Bool} {ln nt : Nat → Nat} {K : _} {Q : _ → Prop} (hN : 11 ≤ N) (hno : no ≤ 10) (hs : s < 1024) (ho1 : opn < 2 ^ no) (ho2 : ∀ o, o < no → opn.testBit o = my p o)
    (hc : ∀ o, o < no → m_D_can N td np d d' du db rf rt (nI p) (nI o) = some (bI (my p o))) (hw : ∀ o, o < no → m_D_netOf td ct ag d d' dcm dw (nI p) (nI o) = some (nI (nt o))) (hl : ∀ o, o < no → d' (4 * o + 2) = nI (ln o))
    (hQ : ∀ y7 y8 y9 y10, (s ^^^ (s &&& opn) = 0 ∧ y10 = nI 1 ∧ y7 = nI (sm s (fun _ => 1) 10) ∧ y8 = nI (sm s ln no) ∧ y9 = nI (sm s nt no)) ∨ (¬ s ^^^ (s &&& opn) = 0 ∧ y10 = nI 0) → Q (K (nI p) y2 y3 y4 y5 (nI s) y7 y8 y9 y10 (nI 10) thr du db)) :
    Q (L_D_several_78 N td ct ag np (nI no) d d' dcm dw rf rt K N (nI p) y2 y3 y4 y5 (nI s) (nI 0) (nI 0) (nI 0) (nI 1) (nI 0) thr du db) := by
  have hbe : ∀ o, no ≤ o → opn.testBit o = false := fun o ho => Nat.testBit_lt_two_pow (Nat.lt_of_lt_of_le ho1 (Nat.pow_le_pow_right (by decide) ho))
  obtain ⟨x, e, h⟩ := lpU (fun n i (x : Int32 × Int32 × Int32 × Int32) => L_D_several_78 N td ct ag np (nI no) d d' dcm dw rf rt K n (nI p) y2 y3 y4 y5 (nI s) x.1 x.2.1 x.2.2.1 x.2.2.2 (nI i) thr du db) (fun x => K (nI p) y2 y3 y4 y5 (nI s) x.1 x.2.1 x.2.2.1 x.2.2.2 (nI 10) thr du db)
    (fun i x => (x.2.2.2 = nI 1 ∧ (∀ j, j < i → s.testBit j = true → opn.testBit j = true) ∧ x.1 = nI (sm s (fun _ => 1) i) ∧ x.2.1 = nI (sm s ln i) ∧ x.2.2.1 = nI (sm s nt i)) ∨ (x.2.2.2 = nI 0 ∧ ∃ j, j < i ∧ s.testBit j = true ∧ opn.testBit j = false)) 10
    (fun n x _ => by
      simp only [L_D_several_78]
      simp (disch := omega) only [q_lit, q_m1, q_m1', nI_add, pk_mul, pk_sub, q_sh, q_b1, q_b0, nI_leI, nI_ltI, nI_eq, nI_clamp, q_nle, q_le, q_nlt, q_lt, q_mlt, q_mle, q_ltm, q_lem, q_eqm, q_meq, Nat.not_lt_zero, or_false, false_or, or_true, true_or, and_true, true_and, false_and, and_false, if_true, if_false, ↓reduceIte, Option.bind_some, not_true, not_false_eq_true])
    (fun n i x hi h => by
      obtain ⟨z7, z8, z9, z10⟩ := x
      cases hb : s.testBit i with
      | false =>
        refine ⟨(z7, z8, z9, z10), ?_, ?_⟩
        · simp only [L_D_several_78]
          simp (disch := omega) only [q_lit, q_m1, q_m1', nI_add, pk_mul, pk_sub, q_sh, q_b1, q_b0, nI_leI, nI_ltI, nI_eq, nI_clamp, q_nle, q_le, q_nlt, q_lt, q_mlt, q_mle, q_ltm, q_lem, q_eqm, q_meq, Nat.not_lt_zero, or_false, false_or, or_true, true_or, and_true, true_and, false_and, and_false, if_true, if_false, ↓reduceIte, Option.bind_some, not_true, not_false_eq_true, hb]
        · rcases h with ⟨h1, h2, h3, h4, h5⟩ | ⟨h1, j, h2, h3, h4⟩
          · refine Or.inl ⟨h1, fun j hj hs => ?_, ?_, ?_, ?_⟩
            · by_cases x : j = i
              · subst x; rw [hb] at hs; cases hs
              · exact h2 j (by omega) hs
            · rw [sm_s, hb]; exact h3
            · rw [sm_s, hb]; exact h4
            · rw [sm_s, hb]; exact h5
          · exact Or.inr ⟨h1, j, by omega, h3, h4⟩
      | true =>
        cases ht : opn.testBit i with
        | false =>
          refine ⟨(z7, z8, z9, nI 0), ?_, Or.inr ⟨rfl, i, by omega, hb, ht⟩⟩
          simp only [L_D_several_78]
          by_cases hin : i < no
          · have hmy : my p i = false := by rw [← ho2 i hin]; exact ht
            simp (disch := omega) only [q_lit, q_m1, q_m1', nI_add, pk_mul, pk_sub, q_sh, q_b1, q_b0, nI_leI, nI_ltI, nI_eq, nI_clamp, q_nle, q_le, q_nlt, q_lt, q_mlt, q_mle, q_ltm, q_lem, q_eqm, q_meq, Nat.not_lt_zero, or_false, false_or, or_true, true_or, and_true, true_and, false_and, and_false, if_true, if_false, ↓reduceIte, Option.bind_some, not_true, not_false_eq_true, hb, Bool.true_eq_false, hc i hin, hmy, bI_0]
          · simp (disch := omega) only [q_lit, q_m1, q_m1', nI_add, pk_mul, pk_sub, q_sh, q_b1, q_b0, nI_leI, nI_ltI, nI_eq, nI_clamp, q_nle, q_le, q_nlt, q_lt, q_mlt, q_mle, q_ltm, q_lem, q_eqm, q_meq, Nat.not_lt_zero, or_false, false_or, or_true, true_or, and_true, true_and, false_and, and_false, if_true, if_false, ↓reduceIte, Option.bind_some, not_true, not_false_eq_true, hb, Bool.true_eq_false]
        | true =>
          have hin : i < no := by
            refine Classical.byContradiction (fun q => ?_)
            rw [hbe i (by omega)] at ht; cases ht
          have hmy : my p i = true := by rw [← ho2 i hin]; exact ht
          refine ⟨(z7 + nI 1, z8 + nI (ln i), z9 + nI (nt i), z10), ?_, ?_⟩
          · simp only [L_D_several_78]
            simp (disch := omega) only [q_lit, q_m1, q_m1', nI_add, pk_mul, pk_sub, q_sh, q_b1, q_b0, nI_leI, nI_ltI, nI_eq, nI_clamp, q_nle, q_le, q_nlt, q_lt, q_mlt, q_mle, q_ltm, q_lem, q_eqm, q_meq, Nat.not_lt_zero, or_false, false_or, or_true, true_or, and_true, true_and, false_and, and_false, if_true, if_false, ↓reduceIte, Option.bind_some, not_true, not_false_eq_true, hb, Bool.true_eq_false, hc i hin, hmy, bI_0, hw i hin, hl i hin]
          · rcases h with ⟨h1, h2, h3, h4, h5⟩ | ⟨h1, j, h2, h3, h4⟩
            · simp only at h1 h3 h4 h5
              refine Or.inl ⟨h1, fun j hj hs => ?_, ?_, ?_, ?_⟩
              · by_cases x : j = i
                · subst x; exact ht
                · exact h2 j (by omega) hs
              · rw [sm_s, hb, h3]; exact nI_add _ _
              · rw [sm_s, hb, h4]; exact nI_add _ _
              · rw [sm_s, hb, h5]; exact nI_add _ _
            · exact Or.inr ⟨h1, j, by omega, h3, h4⟩) N 0 (nI 0, nI 0, nI 0, nI 1) (by omega) (by omega) (Or.inl ⟨rfl, fun j hj => by omega, rfl, rfl, rfl⟩)
  have e' : L_D_several_78 N td ct ag np (nI no) d d' dcm dw rf rt K N (nI p) y2 y3 y4 y5 (nI s) (nI 0) (nI 0) (nI 0) (nI 1) (nI 0) thr du db = _ := e
  rw [e']
  refine hQ x.1 x.2.1 x.2.2.1 x.2.2.2 ?_
  rcases h with ⟨h1, h2, h3, h4, h5⟩ | ⟨h1, j, h2, h3, h4⟩
  · have hsub : s ^^^ (s &&& opn) = 0 := (q_sub s opn).mpr (fun j hj => by
      by_cases q : j < 10
      · exact h2 j q hj
      · have : s.testBit j = false := Nat.testBit_lt_two_pow (Nat.lt_of_lt_of_le hs (Nat.pow_le_pow_right (n := 2) (by decide) (show 10 ≤ j by omega)))
        rw [this] at hj; cases hj)
    have hsn : s < 2 ^ no := Nat.lt_of_le_of_lt (q_sle hsub) ho1
    obtain ⟨m, hm⟩ : ∃ m, 10 = no + m := ⟨10 - no, by omega⟩
    refine Or.inl ⟨hsub, h1, h3, ?_, ?_⟩
    · rw [h4, hm, sm_ext hsn]
    · rw [h5, hm, sm_ext hsn]
  · refine Or.inr ⟨fun q => ?_, h1⟩
    have := (q_sub s opn).mp q j h3
    rw [h4] at this; cases this
theorem e_55 {N no p opn pl : Nat} {td ct ag np y2 thr : Int32} {d d' dcm dw du db rf rt : Nat → Int32} {my : Nat → Nat → Bool} {ln nt : Nat → Nat} {K : _} (hN : 1025 ≤ N) (hno : no ≤ 10) (hp : p < 10) (ho1 : opn < 2 ^ no) (ho2 : ∀ o, o < no → opn.testBit o = my p o)
    (hc : ∀ o, o < no → m_D_can N td np d d' du db rf rt (nI p) (nI o) = some (bI (my p o))) (hw : ∀ o, o < no → m_D_netOf td ct ag d d' dcm dw (nI p) (nI o) = some (nI (nt o))) (hl : ∀ o, o < no → d' (4 * o + 2) = nI (ln o) ∧ ln o ≤ 1000) (hpl : d (4 * p + 2) = nI pl) (hpl2 : pl ≤ 1000) (hnt : ∀ o, o < no → nt o ≤ 1000000) :
    L_D_several_55 N td ct ag np (nI no) d d' dcm dw rf rt K N (nI p) y2 (nI 0) (nI 0) (nI 0) (nI 1) thr du db = K (nI p) y2 (nI (btB no pl opn ln nt opn).1) (nI (btB no pl opn ln nt opn).2.1) (nI (btB no pl opn ln nt opn).2.2) (nI 1024) thr du db := by
  have p1 := q_p2' hno
  obtain ⟨b, e, h⟩ := lpU (fun n i (b : Nat × Nat × Nat) => L_D_several_55 N td ct ag np (nI no) d d' dcm dw rf rt K n (nI p) y2 (nI b.1) (nI b.2.1) (nI b.2.2) (nI (i + 1)) thr du db) (fun b => K (nI p) y2 (nI b.1) (nI b.2.1) (nI b.2.2) (nI 1024) thr du db) (fun i b => b = btB no pl opn ln nt i) 1023
    (fun n b _ => by
      simp only [L_D_several_55]
      simp (disch := omega) only [q_lit, q_m1, q_m1', nI_add, pk_mul, pk_sub, q_sh, q_b1, q_b0, nI_leI, nI_ltI, nI_eq, nI_clamp, q_nle, q_le, q_nlt, q_lt, q_mlt, q_mle, q_ltm, q_lem, q_eqm, q_meq, Nat.not_lt_zero, or_false, false_or, or_true, true_or, and_true, true_and, false_and, and_false, if_true, if_false, ↓reduceIte, Option.bind_some, not_true, not_false_eq_true])
    (fun n i b hi h => by
      refine ⟨stB no pl opn ln nt (i + 1) b, ?_, by rw [h]; rfl⟩
      obtain ⟨c1, c2, c3, c4, c5⟩ := btB_sp no pl opn ln nt hno hnt i
      rw [← h] at c1 c2 c3 c4 c5
      have hs : i + 1 < 1024 := by omega
      have b1 : sm (i + 1) (fun _ => 1) 10 ≤ 10 * 1 := sm_bd 10 (fun o _ => Nat.le_refl _)
      have b2 : sm (i + 1) nt no ≤ no * 1000000 := sm_bd no hnt
      have b3 : sm (i + 1) ln no ≤ no * 1000 := sm_bd no (fun o ho => (hl o ho).2)
      have hge : ¬ (1024 : Int32) ≤ nI (i + 1) := nI_ge (b := 1024) (by omega) (by omega)
      simp only [L_D_several_55]
      rw [if_neg hge]
      refine e_78 (Q := fun r => r = _) (opn := opn) (by omega) hno hs ho1 ho2 hc hw (fun o ho => (hl o ho).1) (fun y7 y8 y9 y10 hh => ?_)
      unfold stB
      rcases hh with ⟨d1, rfl, rfl, rfl, rfl⟩ | ⟨d1, rfl⟩
      · simp (disch := omega) only [q_lit, q_m1, q_m1', nI_add, pk_mul, pk_sub, q_sh, q_b1, q_b0, nI_leI, nI_ltI, nI_eq, nI_clamp, q_nle, q_le, q_nlt, q_lt, q_mlt, q_mle, q_ltm, q_lem, q_eqm, q_meq, Nat.not_lt_zero, or_false, false_or, or_true, true_or, and_true, true_and, false_and, and_false, if_true, if_false, ↓reduceIte, Option.bind_some, not_true, not_false_eq_true, hpl, Nat.one_ne_zero]
        simp only [if_pos d1]
        by_cases d3 : 5 < sm (i + 1) (fun _ => 1) 10
        · simp only [if_pos d3, if_pos (show sm (i + 1) (fun _ => 1) 10 < b.2.1 ∨ 5 < sm (i + 1) (fun _ => 1) 10 ∨ pl < sm (i + 1) ln no from Or.inr (Or.inl d3))]
        · simp only [if_neg d3]
          by_cases d4 : sm (i + 1) ln no ≤ pl
          · simp only [if_pos d4]
            by_cases d2 : sm (i + 1) (fun _ => 1) 10 < b.2.1
            · simp only [if_pos d2, if_pos (show sm (i + 1) (fun _ => 1) 10 < b.2.1 ∨ 5 < sm (i + 1) (fun _ => 1) 10 ∨ pl < sm (i + 1) ln no from Or.inl d2)]
            · simp only [if_neg d2, if_neg (show ¬ (sm (i + 1) (fun _ => 1) 10 < b.2.1 ∨ 5 < sm (i + 1) (fun _ => 1) 10 ∨ pl < sm (i + 1) ln no) by omega)]
              by_cases d5 : sm (i + 1) (fun _ => 1) 10 = b.2.1
              · simp only [if_pos d5]
                by_cases d6 : b.2.2 < sm (i + 1) nt no
                · simp only [if_pos d6, if_pos (show b.2.1 < sm (i + 1) (fun _ => 1) 10 ∨ b.2.2 < sm (i + 1) nt no from Or.inr d6)]
                · simp only [if_neg d6, if_neg (show ¬ (b.2.1 < sm (i + 1) (fun _ => 1) 10 ∨ b.2.2 < sm (i + 1) nt no) by omega)]
              · simp only [if_neg d5, if_pos (show b.2.1 < sm (i + 1) (fun _ => 1) 10 ∨ b.2.2 < sm (i + 1) nt no from Or.inl (by omega))]
          · simp only [if_neg d4, if_pos (show sm (i + 1) (fun _ => 1) 10 < b.2.1 ∨ 5 < sm (i + 1) (fun _ => 1) 10 ∨ pl < sm (i + 1) ln no from Or.inr (Or.inr (by omega)))]
      · simp (disch := omega) only [q_lit, q_m1, q_m1', nI_add, pk_mul, pk_sub, q_sh, q_b1, q_b0, nI_leI, nI_ltI, nI_eq, nI_clamp, q_nle, q_le, q_nlt, q_lt, q_mlt, q_mle, q_ltm, q_lem, q_eqm, q_meq, Nat.not_lt_zero, or_false, false_or, or_true, true_or, and_true, true_and, false_and, and_false, if_true, if_false, ↓reduceIte, Option.bind_some, not_true, not_false_eq_true]
        simp only [if_neg d1]) N 0 (0, 0, 0) (by omega) (by omega) rfl
  have hb : b = btB no pl opn ln nt opn := by
    obtain ⟨m, hm⟩ : ∃ m, 1023 = opn + m := ⟨1023 - opn, by omega⟩
    rw [h, hm, btB_up]
  rw [← hb]
  exact e
theorem e_246 {N no p bs : Nat} {y2 y4 y5 thr : Int32} {du db : Nat → Int32} {K : _} {Q : _ → Prop} (hN : 11 ≤ N) (hno : no ≤ 10) (hs : bs < 1024) (hQ : ∀ db', (∀ o, o < no → db' o = if bs.testBit o = true then nI p else db o) → Q (K (nI p) y2 (nI bs) y4 y5 (nI no) thr du db')) :
    Q (L_D_several_246 N (nI no) K N (nI p) y2 (nI bs) y4 y5 (nI 0) thr du db) := by
  obtain ⟨x, e, h⟩ := lpU (fun n i x => L_D_several_246 N (nI no) K n (nI p) y2 (nI bs) y4 y5 (nI i) thr du x) (fun x => K (nI p) y2 (nI bs) y4 y5 (nI no) thr du x) (fun i x => ∀ o, o < no → x o = if o < i ∧ bs.testBit o = true then nI p else db o) no
    (fun n x _ => by
      simp only [L_D_several_246]
      simp (disch := omega) only [q_lit, q_m1, q_m1', nI_add, pk_mul, pk_sub, q_sh, q_b1, q_b0, nI_leI, nI_ltI, nI_eq, nI_clamp, q_nle, q_le, q_nlt, q_lt, q_mlt, q_mle, q_ltm, q_lem, q_eqm, q_meq, Nat.not_lt_zero, or_false, false_or, or_true, true_or, and_true, true_and, false_and, and_false, if_true, if_false, ↓reduceIte, Option.bind_some, not_true, not_false_eq_true])
    (fun n i x hi h => by
      cases hb : bs.testBit i with
      | false =>
        refine ⟨x, ?_, fun o ho => ?_⟩
        · simp only [L_D_several_246]
          simp (disch := omega) only [q_lit, q_m1, q_m1', nI_add, pk_mul, pk_sub, q_sh, q_b1, q_b0, nI_leI, nI_ltI, nI_eq, nI_clamp, q_nle, q_le, q_nlt, q_lt, q_mlt, q_mle, q_ltm, q_lem, q_eqm, q_meq, Nat.not_lt_zero, or_false, false_or, or_true, true_or, and_true, true_and, false_and, and_false, if_true, if_false, ↓reduceIte, Option.bind_some, not_true, not_false_eq_true, hb, Bool.false_eq_true]
        · rw [h o ho]
          by_cases q : o = i
          · subst q; rw [hb, if_neg (by simp), if_neg (by simp)]
          · by_cases r : o < i ∧ bs.testBit o = true
            · rw [if_pos r, if_pos ⟨by omega, r.2⟩]
            · rw [if_neg r, if_neg (fun z => r ⟨by omega, z.2⟩)]
      | true =>
        refine ⟨upd x i (nI p), ?_, fun o ho => ?_⟩
        · simp only [L_D_several_246]
          simp (disch := omega) only [q_lit, q_m1, q_m1', nI_add, pk_mul, pk_sub, q_sh, q_b1, q_b0, nI_leI, nI_ltI, nI_eq, nI_clamp, q_nle, q_le, q_nlt, q_lt, q_mlt, q_mle, q_ltm, q_lem, q_eqm, q_meq, Nat.not_lt_zero, or_false, false_or, or_true, true_or, and_true, true_and, false_and, and_false, if_true, if_false, ↓reduceIte, Option.bind_some, not_true, not_false_eq_true, hb]
        · by_cases q : o = i
          · subst q; rw [pk_us, if_pos ⟨by omega, hb⟩]
          · rw [pk_un q, h o ho]
            by_cases r : o < i ∧ bs.testBit o = true
            · rw [if_pos r, if_pos ⟨by omega, r.2⟩]
            · rw [if_neg r, if_neg (fun z => r ⟨by omega, z.2⟩)]) N 0 db (by omega) (by omega) (fun o ho => by rw [if_neg (by omega)])
  have e' : L_D_several_246 N (nI no) K N (nI p) y2 (nI bs) y4 y5 (nI 0) thr du db = _ := e
  rw [e']
  refine hQ x (fun o ho => ?_)
  rw [h o ho]
  by_cases r : bs.testBit o = true
  · rw [if_pos ⟨ho, r⟩, if_pos r]
  · rw [if_neg (fun z => r z.2), if_neg r]
