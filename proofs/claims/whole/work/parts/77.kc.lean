/-! Own rows: the law's cases of run, dual, reserved, orderOf. -/
theorem k_6 {N np no td ct ag uo ho : Nat} {um cf wf : Nat → Nat} {t w l g d t' w' l' g' d' cm dcm tl dw up du db hp hl rf rt gn bst ch pd od dpd dod : Nat → Int32} {uu hh ran dsu : Int32} {tab : Nat → Int64} (hN : 1025 ≤ N) (hB : I_B np (nI np) (nI np) t w l g d) (hB' : I_B no (nI no) (nI no) t' w' l' g' d') (hU : I_U np no um uo up uu du db) (hH : I_H np no td ho hp hl hh rf rt) (hC : I_C np td cf cm dcm) (hW : I_W wf tl dw) (h1 : td ≤ 9999) (h2 : ct ≤ 1000) (h3 : ag ≤ 1000) (hz : ∀ s, s < 1024 → bst s = nI 0) :
    ∃ up' uu' hp' hh' gn' bst' ch' pd' od' pc' oc' pr' su' mu' thr du' db' rf' ran' dsu' dpd' dod' tab' um' uo' ho', m_L_case6 N t w l g (nI np) t' w' l' g' (nI no) cm tl up uu hp hh gn bst ch pd od (nI td) (nI ct) (nI ag) (nI td) (nI ct) (nI ag) (nI np) (nI no) d d' dcm dw du db rf rt ran dsu dpd dod tab = some (up', uu', hp', hh', gn', bst', ch', pd', od', pc', oc', pr', su', mu', thr, du', db', rf', ran', dsu', dpd', dod', tab') ∧ I_U np no um' uo' up' uu' du' db' ∧ I_H np no td ho' hp' hl hh' rf' rt ∧ I_M np no mu' ran' su' dsu' pd' od' dpd' dod' ∧ ∀ s, s < 1024 → bst' s = nI 0 := by
  have hnp := hB.1
  have hno := hB'.1
  have hnt : ∀ p o, p < np → o < no → ntF w l w' l' wf cf td ct ag p o ≤ 1000000 := fun p o q1 q2 => nt_bd hW (by omega) (by omega)
  obtain ⟨G, b', c', pd', od', e1, a1, a2, a3⟩ := e_runS (N := N) (t := t) (w := w) (l := l) (gr := g) (t' := t') (w' := w') (l' := l') (gr' := g') (gn := gn) (ch := ch) (pd := pd) (od := od) (s0 := (up, uu, hp, hh)) (my := mayB um uo ho hp (fitB t w l g t' w' l' g')) (nt := ntF w l w' l' wf cf td ct ag) (td := nI td) (ct := nI ct) (ag := nI ag) (cm := cm) (tl := tl) hN hnp hno hnt (fun p o q1 q2 => e_may hno hU hH (by omega) q2) (fun p o q1 q2 => nt_S hnp hC hW h1 h2 h3 q1 (by omega)) hz
  obtain ⟨du', db', rf', dpd', dod', tab', um', uo', ho', e2, c1, c2, c3, c4⟩ := e_runD (N := N) (ran := ran) (sum := dsu) (dpd := dpd) (dod := dod) (tab := tab) (s0 := (up, uu, hp, hh)) (my := mayB um uo ho hp (fitB t w l g t' w' l' g')) (nt := ntF w l w' l' wf cf td ct ag) (ct := nI ct) (ag := nI ag) (dcm := dcm) (dw := dw) hN hB hB' hnt hU hH (fun _ _ _ _ => rfl) (fun p o q1 q2 => nt_D hB hB' hC hW h1 h2 h3 q1 q2)
  unfold m_L_case6
  rw [e1]
  simp only [Option.bind_some]
  rw [e2]
  simp only [Option.bind_some, if_true, ↓reduceIte]
  exact ⟨_, _, _, _, _, _, _, _, _, _, _, _, _, _, _, _, _, _, _, _, _, _, _, um', uo', ho', rfl, c1, c2, ⟨rfl, Or.inr ⟨rfl, rfl, fun k hk => by rw [a3 k hk, c3 k hk], fun k hk => by rw [a2 k hk, c4 k hk]⟩⟩, a1⟩
theorem k_8 {np no : Nat} {mu ran su dsu : Int32} {pd od dpd dod : Nat → Int32} (hnp : np ≤ 10) (hno : no ≤ 10) (hM : I_M np no mu ran su dsu pd od dpd dod) (jo : Nat → Int64) (x1 x2 : Int32) :
    ∃ jo' thr, m_L_case8 (nI np) (nI no) pd od mu (nI np) (nI no) ran dpd dod jo x1 x2 = some (jo', thr) := by
  have a0 : nI 0 &&& nI 1 = nI 0 := by decide +kernel
  have a1 : nI 1 &&& nI 1 = nI 1 := by decide +kernel
  unfold m_L_case8 m_L_dual m_S_dual m_D_dual m_M_isUpToDate m_M_dualOfPiece m_M_dualOfOrder
  rcases e_in (a := 0) (b := 1) (by omega) (by omega) x1 with ⟨k, _, hk, rfl, i1⟩ | i1
  · have hk2 : k = 0 ∨ k = 1 := by omega
    rcases hk2 with rfl | rfl
    · rcases e_isP hnp x2 with ⟨p, hp1, rfl, ed, ec⟩ | ⟨ed, ec⟩
      · rcases hM.2 with ⟨rfl, rfl⟩ | ⟨rfl, rfl, g1, g2⟩
        · refine ⟨jo, nI 2, ?_⟩
          simp (disch := omega) only [q_lit, q_m1, q_m1', nI_add, pk_mul, pk_sub, q_sh, q_b1, q_b0, nI_leI, nI_ltI, nI_eq, nI_clamp, q_nle, q_le, q_nlt, q_lt, q_mlt, q_mle, q_ltm, q_lem, q_eqm, q_meq, Nat.not_lt_zero, or_false, false_or, or_true, true_or, and_true, true_and, false_and, and_false, if_true, if_false, ↓reduceIte, Option.bind_some, not_true, not_false_eq_true, i1, ed, ec, a0, tk, tc, m_D_goes, m_D_thrown, Nat.one_ne_zero, Nat.reduceEqDiff]
        · refine ⟨vp_updL jo 0 (pd p).toInt64, nI 0, ?_⟩
          simp (disch := omega) only [q_lit, q_m1, q_m1', nI_add, pk_mul, pk_sub, q_sh, q_b1, q_b0, nI_leI, nI_ltI, nI_eq, nI_clamp, q_nle, q_le, q_nlt, q_lt, q_mlt, q_mle, q_ltm, q_lem, q_eqm, q_meq, Nat.not_lt_zero, or_false, false_or, or_true, true_or, and_true, true_and, false_and, and_false, if_true, if_false, ↓reduceIte, Option.bind_some, not_true, not_false_eq_true, i1, ed, ec, a1, tk, tc, m_D_goes, m_D_thrown, Nat.one_ne_zero, Nat.reduceEqDiff, pk_uLs, q_ceq, g1 p hp1]
      · refine ⟨jo, nI 1, ?_⟩
        simp (disch := omega) only [q_lit, q_m1, q_m1', nI_add, pk_mul, pk_sub, q_sh, q_b1, q_b0, nI_leI, nI_ltI, nI_eq, nI_clamp, q_nle, q_le, q_nlt, q_lt, q_mlt, q_mle, q_ltm, q_lem, q_eqm, q_meq, Nat.not_lt_zero, or_false, false_or, or_true, true_or, and_true, true_and, false_and, and_false, if_true, if_false, ↓reduceIte, Option.bind_some, not_true, not_false_eq_true, i1, ed, ec, tk, tc, m_D_goes, m_D_thrown, Nat.one_ne_zero, Nat.reduceEqDiff]
    · rcases e_isO hno x2 with ⟨p, hp1, rfl, ed, ec⟩ | ⟨ed, ec⟩
      · rcases hM.2 with ⟨rfl, rfl⟩ | ⟨rfl, rfl, g1, g2⟩
        · refine ⟨jo, nI 2, ?_⟩
          simp (disch := omega) only [q_lit, q_m1, q_m1', nI_add, pk_mul, pk_sub, q_sh, q_b1, q_b0, nI_leI, nI_ltI, nI_eq, nI_clamp, q_nle, q_le, q_nlt, q_lt, q_mlt, q_mle, q_ltm, q_lem, q_eqm, q_meq, Nat.not_lt_zero, or_false, false_or, or_true, true_or, and_true, true_and, false_and, and_false, if_true, if_false, ↓reduceIte, Option.bind_some, not_true, not_false_eq_true, i1, ed, ec, a0, tk, tc, m_D_goes, m_D_thrown, Nat.one_ne_zero, Nat.reduceEqDiff]
        · refine ⟨vp_updL jo 0 (od p).toInt64, nI 0, ?_⟩
          simp (disch := omega) only [q_lit, q_m1, q_m1', nI_add, pk_mul, pk_sub, q_sh, q_b1, q_b0, nI_leI, nI_ltI, nI_eq, nI_clamp, q_nle, q_le, q_nlt, q_lt, q_mlt, q_mle, q_ltm, q_lem, q_eqm, q_meq, Nat.not_lt_zero, or_false, false_or, or_true, true_or, and_true, true_and, false_and, and_false, if_true, if_false, ↓reduceIte, Option.bind_some, not_true, not_false_eq_true, i1, ed, ec, a1, tk, tc, m_D_goes, m_D_thrown, Nat.one_ne_zero, Nat.reduceEqDiff, pk_uLs, q_ceq, g2 p hp1]
      · refine ⟨jo, nI 1, ?_⟩
        simp (disch := omega) only [q_lit, q_m1, q_m1', nI_add, pk_mul, pk_sub, q_sh, q_b1, q_b0, nI_leI, nI_ltI, nI_eq, nI_clamp, q_nle, q_le, q_nlt, q_lt, q_mlt, q_mle, q_ltm, q_lem, q_eqm, q_meq, Nat.not_lt_zero, or_false, false_or, or_true, true_or, and_true, true_and, false_and, and_false, if_true, if_false, ↓reduceIte, Option.bind_some, not_true, not_false_eq_true, i1, ed, ec, tk, tc, m_D_goes, m_D_thrown, Nat.one_ne_zero, Nat.reduceEqDiff]
  · have n0 : ¬ x1 = nI 0 := fun e => by rw [e] at i1; exact absurd i1 (by decide +kernel)
    have n1 : ¬ x1 = nI 1 := fun e => by rw [e] at i1; exact absurd i1 (by decide +kernel)
    refine ⟨jo, nI 1, ?_⟩
    simp (disch := omega) only [q_lit, q_m1, q_m1', nI_add, pk_mul, pk_sub, q_sh, q_b1, q_b0, nI_leI, nI_ltI, nI_eq, nI_clamp, q_nle, q_le, q_nlt, q_lt, q_mlt, q_mle, q_ltm, q_lem, q_eqm, q_meq, Nat.not_lt_zero, or_false, false_or, or_true, true_or, and_true, true_and, false_and, and_false, if_true, if_false, ↓reduceIte, Option.bind_some, not_true, not_false_eq_true, i1, n0, n1, tk, tc, m_D_goes, m_D_thrown, Nat.one_ne_zero, Nat.reduceEqDiff]
theorem k_12 {np no td ho : Nat} {hp hl rf rt : Nat → Int32} {hh : Int32} (hnp : np ≤ 10) (hH : I_H np no td ho hp hl hh rf rt) (jo : Nat → Int64) (x1 : Int32) :
    ∃ jo' thr, m_L_case12 (nI np) hp (nI td) (nI np) rf rt jo x1 = some (jo', thr) := by
  unfold m_L_case12 m_L_reserved m_S_reserved m_S_refuseUnknownPiece m_D_reserved m_H_orderHeldBy
  rcases e_isP hnp x1 with ⟨p, hp1, rfl, ed, ec⟩ | ⟨ed, ec⟩
  · have hre := e_resv (p := p) (by omega) (hH.2.2.1 p hp1)
    refine ⟨vp_updL jo 0 (hp p).toInt64, nI 0, ?_⟩
    simp (disch := omega) only [q_lit, q_m1, q_m1', nI_add, pk_mul, pk_sub, q_sh, q_b1, q_b0, nI_leI, nI_ltI, nI_eq, nI_clamp, q_nle, q_le, q_nlt, q_lt, q_mlt, q_mle, q_ltm, q_lem, q_eqm, q_meq, Nat.not_lt_zero, or_false, false_or, or_true, true_or, and_true, true_and, false_and, and_false, if_true, if_false, ↓reduceIte, Option.bind_some, not_true, not_false_eq_true, ed, ec, hre, tk, tc, m_D_goes, m_D_thrown, Nat.one_ne_zero, Nat.reduceEqDiff, pk_uLs, q_ceq]
  · refine ⟨jo, nI 1, ?_⟩
    simp (disch := omega) only [q_lit, q_m1, q_m1', nI_add, pk_mul, pk_sub, q_sh, q_b1, q_b0, nI_leI, nI_ltI, nI_eq, nI_clamp, q_nle, q_le, q_nlt, q_lt, q_mlt, q_mle, q_ltm, q_lem, q_eqm, q_meq, Nat.not_lt_zero, or_false, false_or, or_true, true_or, and_true, true_and, false_and, and_false, if_true, if_false, ↓reduceIte, Option.bind_some, not_true, not_false_eq_true, ed, ec, tk, tc, m_D_goes, m_D_thrown, Nat.one_ne_zero, Nat.reduceEqDiff]
def fn2 (P : Nat → Bool) : Nat → Nat → Nat → Nat ⊕ Nat
  | 0, _, k => .inr k
  | m + 1, i, k => if P i = true then (match k with
    | 0 => .inl i
    | k + 1 => fn2 P m (i + 1) k) else fn2 P m (i + 1) k
def r2 : Nat ⊕ Nat → Int32
  | .inl o => nI o
  | .inr _ => mI
theorem fn2_f {P : Nat → Bool} {m i k : Nat} (h : P i = false) : fn2 P (m + 1) i k = fn2 P m (i + 1) k := by
  show (if P i = true then _ else _) = _
  rw [if_neg (by rw [h]; decide)]
theorem fn2_z {P : Nat → Bool} {m i : Nat} (h : P i = true) : fn2 P (m + 1) i 0 = .inl i := by
  show (if P i = true then _ else _) = _
  rw [if_pos h]
theorem fn2_t {P : Nat → Bool} {m i k : Nat} (h : P i = true) : fn2 P (m + 1) i (k + 1) = fn2 P m (i + 1) k := by
  show (if P i = true then _ else _) = _
  rw [if_pos h]
theorem fn2_n {P : Nat → Bool} (m : Nat) : ∀ i k, (∀ j, i ≤ j → j < i + m → P j = false) → fn2 P m i k = .inr k := by
  induction m with
  | zero => intros; rfl
  | succ m ih =>
    intro i k h
    rw [fn2_f (h i (Nat.le_refl _) (by omega))]
    exact ih (i + 1) k (fun j h1 h2 => h j (by omega) (by omega))
theorem fn2_c {P P' : Nat → Bool} (m : Nat) : ∀ i k, (∀ j, i ≤ j → j < i + m → P j = P' j) → fn2 P m i k = fn2 P' m i k := by
  induction m with
  | zero => intros; rfl
  | succ m ih =>
    intro i k h
    have h0 := h i (Nat.le_refl _) (by omega)
    cases hp : P i with
    | false =>
      rw [fn2_f hp, fn2_f (by rw [← h0]; exact hp)]
      exact ih (i + 1) k (fun j h1 h2 => h j (by omega) (by omega))
    | true =>
      have hp' : P' i = true := by rw [← h0]; exact hp
      cases k with
      | zero => rw [fn2_z hp, fn2_z hp']
      | succ k =>
        rw [fn2_t hp, fn2_t hp']
        exact ih (i + 1) k (fun j h1 h2 => h j (by omega) (by omega))
def s2 (x : Nat ⊕ Nat) (f : Nat → Nat ⊕ Nat) : Nat ⊕ Nat :=
  match x with
  | .inl o => .inl o
  | .inr k => f k
theorem fn2_s {P : Nat → Bool} (m m' : Nat) : ∀ i k, fn2 P (m + m') i k = s2 (fn2 P m i k) (fun k' => fn2 P m' (i + m) k') := by
  induction m with
  | zero =>
    intro i k
    rw [Nat.zero_add]
    rfl
  | succ m ih =>
    intro i k
    have e : m + 1 + m' = m + m' + 1 := by omega
    have e2 : i + (m + 1) = i + 1 + m := by omega
    rw [e, e2]
    cases hp : P i with
    | false => rw [fn2_f hp, fn2_f hp, ih]
    | true =>
      cases k with
      | zero => rw [fn2_z hp, fn2_z hp]; rfl
      | succ k => rw [fn2_t hp, fn2_t hp, ih]
theorem e_at {N p s K : Nat} {up : Nat → Int32} (hN : 11 ≤ N) (hp : p < 10) (hu : up p = nI s) (hs : s < 1024) (hK : K < 2 ^ 31) : m_U_orderAt N up (nI p) (nI K) = some (r2 (fn2 s.testBit 10 0 K)) := by
  unfold m_U_orderAt
  have key : ∀ m i n c, i + m = 10 → m < n → c ≤ K → L_U_orderAt_5 N up (fun y1a y2a y3a y4a => some (-1)) n (nI p) (nI K) (nI c) (nI i) = some (r2 (fn2 s.testBit m i (K - c))) := by
    intro m
    induction m with
    | zero =>
      intro i n c h1 h2 h3
      obtain ⟨n, rfl⟩ : ∃ k, n = k + 1 := ⟨n - 1, by omega⟩
      simp only [L_U_orderAt_5]
      simp (disch := omega) only [q_lit, q_m1, q_m1', nI_add, pk_mul, pk_sub, q_sh, q_b1, q_b0, nI_leI, nI_ltI, nI_eq, nI_clamp, q_nle, q_le, q_nlt, q_lt, q_mlt, q_mle, q_ltm, q_lem, q_eqm, q_meq, Nat.not_lt_zero, or_false, false_or, or_true, true_or, and_true, true_and, false_and, and_false, if_true, if_false, ↓reduceIte, Option.bind_some, not_true, not_false_eq_true]
      rfl
    | succ m ih =>
      intro i n c h1 h2 h3
      obtain ⟨n, rfl⟩ : ∃ k, n = k + 1 := ⟨n - 1, by omega⟩
      simp only [L_U_orderAt_5]
      cases hb : s.testBit i with
      | false =>
        rw [fn2_f hb]
        simp (disch := omega) only [q_lit, q_m1, q_m1', nI_add, pk_mul, pk_sub, q_sh, q_b1, q_b0, nI_leI, nI_ltI, nI_eq, nI_clamp, q_nle, q_le, q_nlt, q_lt, q_mlt, q_mle, q_ltm, q_lem, q_eqm, q_meq, Nat.not_lt_zero, or_false, false_or, or_true, true_or, and_true, true_and, false_and, and_false, if_true, if_false, ↓reduceIte, Option.bind_some, not_true, not_false_eq_true, hu, hb, Bool.false_eq_true]
        exact ih (i + 1) n c (by omega) (by omega) h3
      | true =>
        by_cases e : c = K
        · subst e
          rw [Nat.sub_self, fn2_z hb]
          simp (disch := omega) only [q_lit, q_m1, q_m1', nI_add, pk_mul, pk_sub, q_sh, q_b1, q_b0, nI_leI, nI_ltI, nI_eq, nI_clamp, q_nle, q_le, q_nlt, q_lt, q_mlt, q_mle, q_ltm, q_lem, q_eqm, q_meq, Nat.not_lt_zero, or_false, false_or, or_true, true_or, and_true, true_and, false_and, and_false, if_true, if_false, ↓reduceIte, Option.bind_some, not_true, not_false_eq_true, hu, hb]
          rfl
        · obtain ⟨q, hq⟩ : ∃ q, K - c = q + 1 := ⟨K - c - 1, by omega⟩
          rw [hq, fn2_t hb]
          simp (disch := omega) only [q_lit, q_m1, q_m1', nI_add, pk_mul, pk_sub, q_sh, q_b1, q_b0, nI_leI, nI_ltI, nI_eq, nI_clamp, q_nle, q_le, q_nlt, q_lt, q_mlt, q_mle, q_ltm, q_lem, q_eqm, q_meq, Nat.not_lt_zero, or_false, false_or, or_true, true_or, and_true, true_and, false_and, and_false, if_true, if_false, ↓reduceIte, Option.bind_some, not_true, not_false_eq_true, hu, hb, e]
          have e2 : q = K - (c + 1) := by omega
          rw [e2]
          exact ih (i + 1) n (c + 1) (by omega) (by omega) (by omega)
  exact key 10 0 N 0 (by omega) (by omega) (by omega)
theorem e_of34 {N p s K no : Nat} {db : Nat → Int32} {y2 thr : Int32} (hN : 11 ≤ N) (hno : no ≤ 10) (hd : ∀ o, o < no → (db o = nI p ↔ s.testBit o = true)) (hK : K < 2 ^ 31) : L_D_orderOf_34 N (nI no) db (fun y1a y2a y3a y4a d_throwna => some (mI, d_throwna)) N (nI p) y2 (nI K) (nI 0) thr = some (r2 (fn2 s.testBit no 0 K), thr) := by
  have key : ∀ m i n k, i + m = no → m < n → k < 2 ^ 31 → L_D_orderOf_34 N (nI no) db (fun y1a y2a y3a y4a d_throwna => some (mI, d_throwna)) n (nI p) y2 (nI k) (nI i) thr = some (r2 (fn2 s.testBit m i k), thr) := by
    intro m
    induction m with
    | zero =>
      intro i n k h1 h2 h3
      obtain ⟨n, rfl⟩ : ∃ k, n = k + 1 := ⟨n - 1, by omega⟩
      simp only [L_D_orderOf_34]
      simp (disch := omega) only [q_lit, q_m1, q_m1', nI_add, pk_mul, pk_sub, q_sh, q_b1, q_b0, nI_leI, nI_ltI, nI_eq, nI_clamp, q_nle, q_le, q_nlt, q_lt, q_mlt, q_mle, q_ltm, q_lem, q_eqm, q_meq, Nat.not_lt_zero, or_false, false_or, or_true, true_or, and_true, true_and, false_and, and_false, if_true, if_false, ↓reduceIte, Option.bind_some, not_true, not_false_eq_true]
      rfl
    | succ m ih =>
      intro i n k h1 h2 h3
      obtain ⟨n, rfl⟩ : ∃ k, n = k + 1 := ⟨n - 1, by omega⟩
      simp only [L_D_orderOf_34]
      cases hb : s.testBit i with
      | false =>
        have hd0 : ¬ db i = nI p := fun x => by rw [(hd i (by omega)).mp x] at hb; cases hb
        rw [fn2_f hb]
        simp (disch := omega) only [q_lit, q_m1, q_m1', nI_add, pk_mul, pk_sub, q_sh, q_b1, q_b0, nI_leI, nI_ltI, nI_eq, nI_clamp, q_nle, q_le, q_nlt, q_lt, q_mlt, q_mle, q_ltm, q_lem, q_eqm, q_meq, Nat.not_lt_zero, or_false, false_or, or_true, true_or, and_true, true_and, false_and, and_false, if_true, if_false, ↓reduceIte, Option.bind_some, not_true, not_false_eq_true, hd0]
        exact ih (i + 1) n k (by omega) (by omega) h3
      | true =>
        have hd1 : db i = nI p := (hd i (by omega)).mpr hb
        cases k with
        | zero =>
          rw [fn2_z hb]
          simp (disch := omega) only [q_lit, q_m1, q_m1', nI_add, pk_mul, pk_sub, q_sh, q_b1, q_b0, nI_leI, nI_ltI, nI_eq, nI_clamp, q_nle, q_le, q_nlt, q_lt, q_mlt, q_mle, q_ltm, q_lem, q_eqm, q_meq, Nat.not_lt_zero, or_false, false_or, or_true, true_or, and_true, true_and, false_and, and_false, if_true, if_false, ↓reduceIte, Option.bind_some, not_true, not_false_eq_true, hd1]
          rfl
        | succ k =>
          have hm : nI (k + 1) + mI = nI k := pk_m1 k
          rw [fn2_t hb]
          simp (disch := omega) only [q_lit, q_m1, q_m1', nI_add, pk_mul, pk_sub, q_sh, q_b1, q_b0, nI_leI, nI_ltI, nI_eq, nI_clamp, q_nle, q_le, q_nlt, q_lt, q_mlt, q_mle, q_ltm, q_lem, q_eqm, q_meq, Nat.not_lt_zero, or_false, false_or, or_true, true_or, and_true, true_and, false_and, and_false, if_true, if_false, ↓reduceIte, Option.bind_some, not_true, not_false_eq_true, hd1, hm, Nat.add_eq_zero_iff, Nat.one_ne_zero]
          exact ih (i + 1) n k (by omega) (by omega) (by omega)
  exact key no 0 N K (by omega) (by omega) hK
theorem k_10 {N np no uo : Nat} {um : Nat → Nat} {up du db : Nat → Int32} {uu : Int32} (hN : 11 ≤ N) (hnp : np ≤ 10) (hno : no ≤ 10) (hU : I_U np no um uo up uu du db) (jo : Nat → Int64) (x1 x2 : Int32) :
    ∃ jo' thr, m_L_case10 N (nI np) up (nI np) (nI no) db jo x1 x2 = some (jo', thr) := by
  unfold m_L_case10 m_L_orderOf m_S_orderOf m_S_refuseUnknownPiece m_S_refuseNegative m_D_orderOf
  rcases e_isP hnp x1 with ⟨p, hp1, rfl, ed, ec⟩ | ⟨ed, ec⟩
  · by_cases hn : x2 < nI 0
    · have hn' : ¬ nI 0 ≤ x2 := Int32.not_le.mpr hn
      refine ⟨jo, nI 1, ?_⟩
      simp (disch := omega) only [q_lit, q_m1, q_m1', nI_add, pk_mul, pk_sub, q_sh, q_b1, q_b0, nI_leI, nI_ltI, nI_eq, nI_clamp, q_nle, q_le, q_nlt, q_lt, q_mlt, q_mle, q_ltm, q_lem, q_eqm, q_meq, Nat.not_lt_zero, or_false, false_or, or_true, true_or, and_true, true_and, false_and, and_false, if_true, if_false, ↓reduceIte, Option.bind_some, not_true, not_false_eq_true, ed, ec, hn, hn', tk, tc, m_D_goes, m_D_thrown, Nat.one_ne_zero, Nat.reduceEqDiff]
    · obtain ⟨K, hK, rfl⟩ := nI_of hn
      obtain ⟨v1, v2, v3⟩ := hU.2.2.1 p (by omega)
      have hu5 := hU.2.2.2.2
      have ea := e_at (N := N) (K := K) hN (show p < 10 by omega) v1 (q_pw v2 hno (by omega)) hK
      have eo := fun (y2 thr : Int32) => e_of34 (N := N) (p := p) (s := um p) (K := K) (no := no) (db := db) (y2 := y2) (thr := thr) hN hno (fun o ho1 => by
        rcases hu5 o ho1 with ⟨w1, w2, w3⟩ | ⟨r, w1, w2, w3, w4⟩
        · rw [w2, w3 p (by omega), q_meq (by omega)]; simp
        · rw [w3, w4 p (by omega), nI_eq (by omega) (by omega), decide_eq_true_eq]; exact eq_comm) hK
      have ee : fn2 (um p).testBit 10 0 K = fn2 (um p).testBit no 0 K := by
        obtain ⟨m, hm⟩ : ∃ m, 10 = no + m := ⟨10 - no, by omega⟩
        rw [hm, fn2_s]
        cases hc : fn2 (um p).testBit no 0 K with
        | inl o => rfl
        | inr k' =>
          show fn2 (um p).testBit m (0 + no) k' = _
          exact fn2_n m _ _ (fun j h1 h2 => Nat.testBit_lt_two_pow (Nat.lt_of_lt_of_le v2 (Nat.pow_le_pow_right (by decide) (by omega))))
      rw [ee] at ea
      refine ⟨vp_updL jo 0 (r2 (fn2 (um p).testBit no 0 K)).toInt64, nI 0, ?_⟩
      simp (disch := omega) only [q_lit, q_m1, q_m1', nI_add, pk_mul, pk_sub, q_sh, q_b1, q_b0, nI_leI, nI_ltI, nI_eq, nI_clamp, q_nle, q_le, q_nlt, q_lt, q_mlt, q_mle, q_ltm, q_lem, q_eqm, q_meq, Nat.not_lt_zero, or_false, false_or, or_true, true_or, and_true, true_and, false_and, and_false, if_true, if_false, ↓reduceIte, Option.bind_some, not_true, not_false_eq_true, ed, ec, ea, eo, tk, tc, m_D_goes, m_D_thrown, Nat.one_ne_zero, Nat.reduceEqDiff, pk_uLs, q_ceq, Nat.zero_le]
  · refine ⟨jo, nI 1, ?_⟩
    simp (disch := omega) only [q_lit, q_m1, q_m1', nI_add, pk_mul, pk_sub, q_sh, q_b1, q_b0, nI_leI, nI_ltI, nI_eq, nI_clamp, q_nle, q_le, q_nlt, q_lt, q_mlt, q_mle, q_ltm, q_lem, q_eqm, q_meq, Nat.not_lt_zero, or_false, false_or, or_true, true_or, and_true, true_and, false_and, and_false, if_true, if_false, ↓reduceIte, Option.bind_some, not_true, not_false_eq_true, ed, ec, tk, tc, m_D_goes, m_D_thrown, Nat.one_ne_zero, Nat.reduceEqDiff]
