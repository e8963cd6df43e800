/-! Own rows: the reference's table. -/
theorem q_cle (x y : Int64) : (lg_cmp x y ≤ nI 0) = (x ≤ y) := propext (lg_cmp_le x y)
theorem q_ceq (x y : Int64) : (lg_cmp x y = nI 0) = (x = y) := propext (lg_cmp_eq x y)
theorem e_f2 {N np : Nat} {K : Int32 → Int32 → (Nat → Int64) → Option (Nat → Int64)} {x1 : Int32} (tab : Nat → Int64) (hN : 1025 ≤ N) (hnp : np ≤ 10) :
    ∃ t', L_D_fill_2 N (nI np) K N x1 (nI 0) tab = K x1 (nI 1024) t' ∧ ∀ s, s < 1024 → t' (1024 * np + s) = lN 0 := by
  refine lpU (fun n i t => L_D_fill_2 N (nI np) K n x1 (nI i) t) (fun t => K x1 (nI 1024) t) (fun i t => ∀ s, s < i → t (1024 * np + s) = lN 0) 1024 ?_ ?_ N 0 tab (by omega) (by omega) (fun s hs => by omega)
  · intro n t _
    simp only [L_D_fill_2]
    simp (disch := omega) only [q_lit, q_m1, q_m1', nI_add, pk_mul, pk_sub, q_sh, q_b1, q_b0, nI_leI, nI_ltI, nI_eq, nI_clamp, q_nle, q_le, q_nlt, q_lt, q_mlt, q_mle, q_ltm, q_lem, q_eqm, q_meq, Nat.not_lt_zero, or_false, false_or, or_true, true_or, and_true, true_and, false_and, and_false, if_true, if_false, ↓reduceIte, Option.bind_some, not_true, not_false_eq_true]
  · intro n i t hi h
    refine ⟨vp_updL t (1024 * np + i) (lN 0), ?_, fun s hs => ?_⟩
    · simp only [L_D_fill_2]
      simp (disch := omega) only [q_lit, q_m1, q_m1', nI_add, pk_mul, pk_sub, q_sh, q_b1, q_b0, nI_leI, nI_ltI, nI_eq, nI_clamp, q_nle, q_le, q_nlt, q_lt, q_mlt, q_mle, q_ltm, q_lem, q_eqm, q_meq, Nat.not_lt_zero, or_false, false_or, or_true, true_or, and_true, true_and, false_and, and_false, if_true, if_false, ↓reduceIte, Option.bind_some, not_true, not_false_eq_true, q_litL]
    · by_cases e : s = i
      · subst e; exact pk_uLs
      · rw [pk_uLn (by omega)]; exact h s (by omega)
theorem e_f44 {N p : Nat} {K : Int32 → Int32 → Int32 → (Nat → Int64) → Option (Nat → Int64)} {x1 : Int32} (tab : Nat → Int64) (hN : 1025 ≤ N) (hp : p < 10) :
    ∃ t', L_D_fill_44 N K N x1 (nI p) (nI 0) tab = K x1 (nI p) (nI 1024) t' ∧ (∀ s, s < 1024 → t' (1024 * p + s) = tab (1024 * (p + 1) + s)) ∧ ∀ i, (i < 1024 * p ∨ 1024 * p + 1024 ≤ i) → t' i = tab i := by
  refine lpU (fun n i t => L_D_fill_44 N K n x1 (nI p) (nI i) t) (fun t => K x1 (nI p) (nI 1024) t) (fun i t => (∀ s, s < i → t (1024 * p + s) = tab (1024 * (p + 1) + s)) ∧ ∀ i, (i < 1024 * p ∨ 1024 * p + 1024 ≤ i) → t i = tab i) 1024 ?_ ?_ N 0 tab (by omega) (by omega) ⟨fun s hs => by omega, fun _ _ => rfl⟩
  · intro n t _
    simp only [L_D_fill_44]
    simp (disch := omega) only [q_lit, q_m1, q_m1', nI_add, pk_mul, pk_sub, q_sh, q_b1, q_b0, nI_leI, nI_ltI, nI_eq, nI_clamp, q_nle, q_le, q_nlt, q_lt, q_mlt, q_mle, q_ltm, q_lem, q_eqm, q_meq, Nat.not_lt_zero, or_false, false_or, or_true, true_or, and_true, true_and, false_and, and_false, if_true, if_false, ↓reduceIte, Option.bind_some, not_true, not_false_eq_true]
  · intro n i t hi h
    refine ⟨vp_updL t (1024 * p + i) (t (1024 * (p + 1) + i)), ?_, fun s hs => ?_, fun j hj => ?_⟩
    · simp only [L_D_fill_44]
      simp (disch := omega) only [q_lit, q_m1, q_m1', nI_add, pk_mul, pk_sub, q_sh, q_b1, q_b0, nI_leI, nI_ltI, nI_eq, nI_clamp, q_nle, q_le, q_nlt, q_lt, q_mlt, q_mle, q_ltm, q_lem, q_eqm, q_meq, Nat.not_lt_zero, or_false, false_or, or_true, true_or, and_true, true_and, false_and, and_false, if_true, if_false, ↓reduceIte, Option.bind_some, not_true, not_false_eq_true]
    · by_cases e : s = i
      · subst e; rw [pk_uLs]; exact h.2 _ (by omega)
      · rw [pk_uLn (by omega)]; exact h.1 s (by omega)
    · rw [pk_uLn (by omega)]; exact h.2 j hj
theorem e_f128 {N p o v : Nat} {K : Int32 → Int32 → Int32 → Int64 → Int32 → (Nat → Int64) → Option (Nat → Int64)} {x1 : Int32} {tab : Nat → Int64} {f h : Nat → Nat} (hN : 1025 ≤ N) (hp : p < 10) (ho : o < 10) (hv : v ≤ 16000001) (hf : ∀ s, s < 1024 → tab (1024 * (p + 1) + s) = lN (f s) ∧ f s ≤ 200000000) (hh : ∀ s, s < 1024 → tab (1024 * p + s) = lN (h s) ∧ h s ≤ 200000000) :
    ∃ t', L_D_fill_128 N K N x1 (nI p) (nI o) (lN v) (nI 0) tab = K x1 (nI p) (nI o) (lN v) (nI 1024) t' ∧ (∀ s, s < 1024 → t' (1024 * p + s) = lN (if s.testBit o = false then max (h s) (f (s ||| 2 ^ o) + v) else h s)) ∧ ∀ i, (i < 1024 * p ∨ 1024 * p + 1024 ≤ i) → t' i = tab i := by
  obtain ⟨t', e, c1, c2⟩ := lpU (fun n i t => L_D_fill_128 N K n x1 (nI p) (nI o) (lN v) (nI i) t) (fun t => K x1 (nI p) (nI o) (lN v) (nI 1024) t)
    (fun i t => (∀ s, s < 1024 → t (1024 * p + s) = lN (if s < i ∧ s.testBit o = false then max (h s) (f (s ||| 2 ^ o) + v) else h s)) ∧ ∀ i, (i < 1024 * p ∨ 1024 * p + 1024 ≤ i) → t i = tab i) 1024
    (fun n t _ => by
      simp only [L_D_fill_128]
      simp (disch := omega) only [q_lit, q_m1, q_m1', nI_add, pk_mul, pk_sub, q_sh, q_b1, q_b0, nI_leI, nI_ltI, nI_eq, nI_clamp, q_nle, q_le, q_nlt, q_lt, q_mlt, q_mle, q_ltm, q_lem, q_eqm, q_meq, Nat.not_lt_zero, or_false, false_or, or_true, true_or, and_true, true_and, false_and, and_false, if_true, if_false, ↓reduceIte, Option.bind_some, not_true, not_false_eq_true])
    (fun n i t hi ⟨c1, c2⟩ => by
      have d1 := q_orl hi ho
      have f1 : t (1024 * (p + 1) + (i ||| 2 ^ o)) = lN (f (i ||| 2 ^ o)) := by rw [c2 _ (by omega)]; exact (hf _ d1).1
      have f1' := (hf _ d1).2
      have f2 : t (1024 * p + i) = lN (h i) := by rw [c1 i hi, if_neg (by omega)]
      have f3 := (hh i hi).2
      by_cases hb : i.testBit o = true
      · refine ⟨t, ?_, fun s hs => ?_, c2⟩
        · simp only [L_D_fill_128]
          simp (disch := omega) only [q_lit, q_m1, q_m1', nI_add, pk_mul, pk_sub, q_sh, q_b1, q_b0, nI_leI, nI_ltI, nI_eq, nI_clamp, q_nle, q_le, q_nlt, q_lt, q_mlt, q_mle, q_ltm, q_lem, q_eqm, q_meq, Nat.not_lt_zero, or_false, false_or, or_true, true_or, and_true, true_and, false_and, and_false, if_true, if_false, ↓reduceIte, Option.bind_some, not_true, not_false_eq_true, hb]
        · rw [c1 s hs]
          by_cases e : s = i
          · subst e
            rw [if_neg (by omega), if_neg (fun q => by rw [hb] at q; cases q.2)]
          · by_cases c : s < i ∧ s.testBit o = false
            · rw [if_pos c, if_pos ⟨by omega, c.2⟩]
            · rw [if_neg c, if_neg (fun q => c ⟨by omega, q.2⟩)]
      · have hb' : i.testBit o = false := by simpa using hb
        by_cases cmp : f (i ||| 2 ^ o) + v ≤ h i
        · refine ⟨t, ?_, fun s hs => ?_, c2⟩
          · simp only [L_D_fill_128]
            simp (disch := omega) only [q_lit, q_m1, q_m1', nI_add, pk_mul, pk_sub, q_sh, q_b1, q_b0, nI_leI, nI_ltI, nI_eq, nI_clamp, q_nle, q_le, q_nlt, q_lt, q_mlt, q_mle, q_ltm, q_lem, q_eqm, q_meq, Nat.not_lt_zero, or_false, false_or, or_true, true_or, and_true, true_and, false_and, and_false, if_true, if_false, ↓reduceIte, Option.bind_some, not_true, not_false_eq_true, q_or, hb', f1, f2, lN_add, q_cle, lN_le, Bool.false_eq_true]
          · rw [c1 s hs]
            by_cases e : s = i
            · subst e
              rw [if_neg (by omega), if_pos ⟨by omega, hb'⟩]
              exact congrArg lN (by omega)
            · by_cases c : s < i ∧ s.testBit o = false
              · rw [if_pos c, if_pos ⟨by omega, c.2⟩]
              · rw [if_neg c, if_neg (fun q => c ⟨by omega, q.2⟩)]
        · refine ⟨vp_updL t (1024 * p + i) (lN (f (i ||| 2 ^ o) + v)), ?_, fun s hs => ?_, fun j hj => ?_⟩
          · simp only [L_D_fill_128]
            simp (disch := omega) only [q_lit, q_m1, q_m1', nI_add, pk_mul, pk_sub, q_sh, q_b1, q_b0, nI_leI, nI_ltI, nI_eq, nI_clamp, q_nle, q_le, q_nlt, q_lt, q_mlt, q_mle, q_ltm, q_lem, q_eqm, q_meq, Nat.not_lt_zero, or_false, false_or, or_true, true_or, and_true, true_and, false_and, and_false, if_true, if_false, ↓reduceIte, Option.bind_some, not_true, not_false_eq_true, q_or, hb', f1, f2, lN_add, q_cle, lN_le, Bool.false_eq_true]
          · by_cases e : s = i
            · subst e
              rw [pk_uLs, if_pos ⟨by omega, hb'⟩]
              exact congrArg lN (by omega)
            · rw [pk_uLn (by omega), c1 s hs]
              by_cases c : s < i ∧ s.testBit o = false
              · rw [if_pos c, if_pos ⟨by omega, c.2⟩]
              · rw [if_neg c, if_neg (fun q => c ⟨by omega, q.2⟩)]
          · rw [pk_uLn (by omega)]; exact c2 j hj) N 0 tab (by omega) (by omega) ⟨fun s hs => by rw [(hh s hs).1, if_neg (by omega)], fun _ _ => rfl⟩
  refine ⟨t', e, fun s hs => ?_, c2⟩
  rw [c1 s hs]
  by_cases c : s.testBit o = false
  · rw [if_pos ⟨hs, c⟩, if_pos c]
  · rw [if_neg (fun q => c q.2), if_neg c]
def gx (ex : Nat → Bool) (g : Nat → Nat → Nat) (p o : Nat) : Nat := if ex o = true then 0 else g p o
theorem gx_bd {ex : Nat → Bool} {g : Nat → Nat → Nat} {B p o : Nat} (h : g p o ≤ B) : gx ex g p o ≤ B := by unfold gx; split <;> omega
theorem e_fill {N np no : Nat} {td ct ag x1 : Int32} {d d' dcm dw du db rf rt : Nat → Int32} {my : Nat → Nat → Bool} {nt : Nat → Nat → Nat} {ex : Nat → Bool} (tab : Nat → Int64) (hN : 1025 ≤ N) (hnp : np ≤ 10) (hno : no ≤ 10) (hnt : ∀ p o, p < np → o < no → nt p o ≤ 1000000)
    (hc : ∀ p o, p < np → o < no → m_D_can N td (nI np) d d' du db rf rt (nI p) (nI o) = some (bI (my p o))) (hw : ∀ p o, p < np → o < no → m_D_netOf td ct ag d d' dcm dw (nI p) (nI o) = some (nI (nt p o))) (hx : ∀ o, o < no → (nI o = x1 ↔ ex o = true)) :
    ∃ t', m_D_fill N td ct ag (nI np) (nI no) d d' dcm dw du db rf rt tab x1 = some t' ∧ ∀ q s, q ≤ np → s < 1024 → t' (1024 * q + s) = lN (TT (gx ex (gf my nt)) no np (np - q) s.testBit) := by
  have hgb : ∀ p o, p < np → o < no → gx ex (gf my nt) p o ≤ 16000001 := fun p o h1 h2 => gx_bd (by unfold gf; have := hnt p o h1 h2; split <;> omega)
  have inner : ∀ (K : Int32 → Int32 → Int32 → (Nat → Int64) → Option (Nat → Int64)) p t, p < np → (∀ q s, p < q → q ≤ np → s < 1024 → t (1024 * q + s) = lN (TT (gx ex (gf my nt)) no np (np - q) s.testBit)) → (∀ s, s < 1024 → t (1024 * p + s) = t (1024 * (p + 1) + s)) →
      ∃ t', L_D_fill_85 N td ct ag (nI np) (nI no) d d' dcm dw du db rf rt K N x1 (nI p) (nI 0) t = K x1 (nI p) (nI no) t' ∧ ∀ q s, p ≤ q → q ≤ np → s < 1024 → t' (1024 * q + s) = lN (TT (gx ex (gf my nt)) no np (np - q) s.testBit) := by
    intro K p t hpn h1 h2
    obtain ⟨r, hr⟩ : ∃ r, np - p = r + 1 := ⟨np - p - 1, by omega⟩
    have hp' : np - (r + 1) = p := by omega
    have hr' : np - (p + 1) = r := by omega
    obtain ⟨t', e, c1, c2⟩ := lpU (fun n i t => L_D_fill_85 N td ct ag (nI np) (nI no) d d' dcm dw du db rf rt K n x1 (nI p) (nI i) t) (fun t => K x1 (nI p) (nI no) t)
      (fun i t => (∀ q s, p < q → q ≤ np → s < 1024 → t (1024 * q + s) = lN (TT (gx ex (gf my nt)) no np (np - q) s.testBit)) ∧ ∀ s, s < 1024 → t (1024 * p + s) = lN (TM (gx ex (gf my nt) p) (TT (gx ex (gf my nt)) no np r) s.testBit i)) no
      (fun n t _ => by
        simp only [L_D_fill_85]
        simp (disch := omega) only [q_lit, q_m1, q_m1', nI_add, pk_mul, pk_sub, q_sh, q_b1, q_b0, nI_leI, nI_ltI, nI_eq, nI_clamp, q_nle, q_le, q_nlt, q_lt, q_mlt, q_mle, q_ltm, q_lem, q_eqm, q_meq, Nat.not_lt_zero, or_false, false_or, or_true, true_or, and_true, true_and, false_and, and_false, if_true, if_false, ↓reduceIte, Option.bind_some, not_true, not_false_eq_true])
      (fun n i t hi ⟨c1, c2⟩ => by
        have hbd := hgb p i hpn hi
        have hnti := hnt p i hpn hi
        by_cases h0 : gx ex (gf my nt) p i = 0
        · refine ⟨t, ?_, c1, fun s hs => ?_⟩
          · simp only [L_D_fill_85]
            by_cases hxi : ex i = true
            · simp (disch := omega) only [q_lit, nI_leI, q_nle, ↓reduceIte, eq_true ((hx i hi).mpr hxi), nI_add]
            · have hxi' : ¬ nI i = x1 := fun q => hxi ((hx i hi).mp q)
              have hmy : my p i = false := by
                unfold gx gf at h0
                rw [if_neg hxi] at h0
                cases hm : my p i
                · rfl
                · rw [hm, if_pos rfl] at h0; omega
              simp (disch := omega) only [q_lit, nI_leI, q_nle, ↓reduceIte, hxi', hc p i hpn hi, Option.bind_some, bI_0, hmy, nI_add]
          · rw [c2 s hs, TM_s, if_neg (by omega)]
        · have hxi : ¬ ex i = true := fun q => h0 (by unfold gx; rw [if_pos q])
          have hxi' : ¬ nI i = x1 := fun q => hxi ((hx i hi).mp q)
          have hmy : my p i = true := by
            unfold gx gf at h0
            rw [if_neg hxi] at h0
            cases hm : my p i
            · rw [hm] at h0; exact absurd rfl h0
            · rfl
          have hv : gx ex (gf my nt) p i = 16 * nt p i + 1 := by
            unfold gx gf
            rw [if_neg hxi, if_pos hmy]; omega
          obtain ⟨t', e, d1, d2⟩ := e_f128 (N := N) (p := p) (o := i) (v := 16 * nt p i + 1) (K := fun y1e y2e y3e y4e y6e d_tablee => L_D_fill_85 N td ct ag (nI np) (nI no) d d' dcm dw du db rf rt K n y1e y2e (y3e + 1) d_tablee) (x1 := x1) (tab := t) (f := fun s => TT (gx ex (gf my nt)) no np r s.testBit) (h := fun s => TM (gx ex (gf my nt) p) (TT (gx ex (gf my nt)) no np r) s.testBit i) hN (by omega) (by omega) (by omega)
            (fun s hs => ⟨by rw [c1 (p + 1) s (by omega) (by omega) hs, hr'], by have := TT_bd (gx ex (gf my nt)) 16000001 no np hgb r (by omega) s.testBit; omega⟩)
            (fun s hs => ⟨c2 s hs, by have := TM_bd (gx ex (gf my nt)) 16000001 no np hgb r i (by omega) (by omega) s.testBit; rw [hp'] at this; omega⟩)
          refine ⟨t', ?_, fun q s hq1 hq2 hs => ?_, fun s hs => ?_⟩
          · simp only [L_D_fill_85]
            simp (disch := omega) only [q_lit, nI_leI, q_nle, ↓reduceIte, hxi', hc p i hpn hi, hw p i hpn hi, Option.bind_some, bI_0, hmy, Bool.true_eq_false, nI_l, q_litL, lN_mul, lN_add]
            refine e.trans ?_
            simp only [q_lit, nI_add]
          · rw [d2 _ (by omega)]; exact c1 q s hq1 hq2 hs
          · rw [d1 s hs, TM_s, hv]
            refine congrArg lN ?_
            by_cases hb : s.testBit i = false
            · rw [if_pos hb, if_pos ⟨by omega, hb⟩, st_or]
            · rw [if_neg hb, if_neg (fun x => hb x.2)]) N 0 t (by omega) (by omega) ⟨h1, fun s hs => by
        rw [h2 s hs, h1 (p + 1) s (by omega) (by omega) hs, hr']; rfl⟩
    refine ⟨t', e, fun q s hq1 hq2 hs => ?_⟩
    by_cases x : q = p
    · subst x
      rw [c2 s hs, hr]
      show _ = lN (TM _ _ _ _)
      rw [hp']
    · exact c1 q s (by omega) hq2 hs
  unfold m_D_fill
  obtain ⟨t1, e1, h1⟩ := e_f2 (N := N) (np := np) (K := fun y1a y2a d_tablea => L_D_fill_38 N td ct ag (nI np) (nI no) d d' dcm dw du db rf rt (fun y1b y2b d_tableb => some d_tableb) N y1a (nI np - 1) d_tablea) (x1 := x1) tab hN hnp
  refine (fun (h : ∃ t', L_D_fill_38 N td ct ag (nI np) (nI no) d d' dcm dw du db rf rt (fun y1b y2b d_tableb => some d_tableb) N x1 (nI np - 1) t1 = some t' ∧ ∀ q s, q ≤ np → s < 1024 → t' (1024 * q + s) = lN (TT (gx ex (gf my nt)) no np (np - q) s.testBit)) => ?_) ?_
  · obtain ⟨t', e, hh⟩ := h
    exact ⟨t', e1.trans e, hh⟩
  · obtain ⟨t', e, hh⟩ := lpD (fun n i t => L_D_fill_38 N td ct ag (nI np) (nI no) d d' dcm dw du db rf rt (fun y1b y2b d_tableb => some d_tableb) n x1 (nI i - 1) t) (fun t => some t)
      (fun i t => i ≤ np ∧ ∀ q s, i ≤ q → q ≤ np → s < 1024 → t (1024 * q + s) = lN (TT (gx ex (gf my nt)) no np (np - q) s.testBit))
      (fun n t _ => by
        simp only [L_D_fill_38]
        have : nI 0 - 1 < (0 : Int32) := by decide +kernel
        rw [if_pos this])
      (fun n i t ⟨hi, h⟩ => by
        obtain ⟨t2, e2, d1, d2⟩ := e_f44 (N := N) (p := i) (K := fun y1c y2c y3c d_tablec => L_D_fill_85 N td ct ag (nI np) (nI no) d d' dcm dw du db rf rt (fun y1d y2d y3d d_tabled => L_D_fill_38 N td ct ag (nI np) (nI no) d d' dcm dw du db rf rt (fun y1b y2b d_tableb => some d_tableb) n y1d (y2d + (-1)) d_tabled) N y1c y2c 0 d_tablec) (x1 := x1) t hN (by omega)
        obtain ⟨t3, e3, d3⟩ := inner (fun y1d y2d y3d d_tabled => L_D_fill_38 N td ct ag (nI np) (nI no) d d' dcm dw du db rf rt (fun y1b y2b d_tableb => some d_tableb) n y1d (y2d + (-1)) d_tabled) i t2 (by omega) (fun q s hq1 hq2 hs => by rw [d2 _ (by omega)]; exact h q s (by omega) hq2 hs) (fun s hs => by rw [d1 s hs, d2 _ (by omega)])
        refine ⟨t3, ?_, by omega, fun q s hq1 hq2 hs => d3 q s hq1 hq2 hs⟩
        have a1 : nI (i + 1) - 1 = nI i := nI_pred i
        have a2 : ¬ nI i < 0 := nI_pos (by omega)
        have a3 : nI i + (-1) = nI i - 1 := (Int32.sub_eq_add_neg _ _).symm
        simp only [L_D_fill_38]
        rw [a1, if_neg a2]
        refine e2.trans (e3.trans ?_)
        rw [a3]) np N t1 (by omega) ⟨by omega, fun q s hq1 hq2 hs => by
          obtain rfl : q = np := by omega
          rw [h1 s hs, Nat.sub_self]; rfl⟩
    exact ⟨t', e, fun q s hq hs => hh.2 q s (by omega) hq hs⟩
