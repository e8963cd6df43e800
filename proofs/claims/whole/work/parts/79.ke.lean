/-! Own rows: the law's case of sale. -/
def pfB (um cf : Nat → Nat) (hp : Nat → Int32) (td sl p : Nat) : Bool := decide (um p = 0) && decide (hp p = mI) && decide (sl ≤ td - cf p)
def pdB (um cf : Nat → Nat) (hp : Nat → Int32) (dd p : Nat) : Bool := decide (um p = 0) && decide (hp p = mI) && decide (cf p = dd)
theorem e_fsale {np no td sl uo ho : Nat} {um cf : Nat → Nat} {cm dcm up du db hp hl rf rt : Nat → Int32} {uu hh : Int32} {p : Nat} (hnp : np ≤ 10) (hno : no ≤ 10) (hU : I_U np no um uo up uu du db) (hC : I_C np td cf cm dcm) (h1 : td ≤ 9999) (h4 : sl ≤ 9999) (hp1 : p < np) :
    m_S_isForSale cm up hp (nI td) (nI sl) (nI p) = some (bI (pfB um cf hp td sl p)) := by
  obtain ⟨v1, v2, v3⟩ := hU.2.2.1 p (by omega)
  have hpu := e_pused (p := p) (um := um) (by omega) v1 (q_pw v2 hno (by omega))
  have hph := e_pheld (hp := hp) (p := p) (by omega)
  obtain ⟨a1, a2, a3⟩ := hC.1 p hp1
  unfold m_S_isForSale m_S_ageOf pfB
  rw [hpu, hph]
  simp (disch := omega) only [q_lit, q_m1, q_m1', nI_add, pk_mul, pk_sub, q_sh, q_b1, q_b0, nI_leI, nI_ltI, nI_eq, nI_clamp, q_nle, q_le, q_nlt, q_lt, q_mlt, q_mle, q_ltm, q_lem, q_eqm, q_meq, Nat.not_lt_zero, or_false, false_or, or_true, true_or, and_true, true_and, false_and, and_false, if_true, if_false, ↓reduceIte, Option.bind_some, not_true, not_false_eq_true, bI_0, a1]
  by_cases c1 : um p = 0
  · by_cases c2 : hp p = mI
    · by_cases c3 : td - cf p < sl
      · have c3' : ¬ sl ≤ td - cf p := by omega
        simp [c1, c2, c3, c3', bI]
      · have c3' : sl ≤ td - cf p := by omega
        simp [c1, c2, c3, c3', bI]
    · simp [c1, c2, bI]
  · simp [c1, bI]
theorem e_saleS {N np K : Nat} {P : Nat → Bool} {cm up hp : Nat → Int32} {td sl : Int32} (hN : 11 ≤ N) (hnp : np ≤ 10) (hK : K < 2 ^ 31) (hP : ∀ p, p < np → m_S_isForSale cm up hp td sl (nI p) = some (bI (P p))) :
    L_S_sale_8 N (nI np) cm up hp td sl (fun y1a y2a y3a => some (.inr mI)) N (nI K) (nI 0) (nI 0) = some (.inr (r2 (fn2 P np 0 K))) := by
  have key : ∀ m i n c, i + m = np → m < n → c ≤ K → L_S_sale_8 N (nI np) cm up hp td sl (fun y1a y2a y3a => some (.inr mI)) n (nI K) (nI c) (nI i) = some (.inr (r2 (fn2 P m i (K - c)))) := by
    intro m
    induction m with
    | zero =>
      intro i n c h1 h2 h3
      obtain ⟨n, rfl⟩ : ∃ k, n = k + 1 := ⟨n - 1, by omega⟩
      simp only [L_S_sale_8, m_B_size]
      simp (disch := omega) only [q_lit, q_m1, q_m1', nI_add, pk_mul, pk_sub, q_sh, q_b1, q_b0, nI_leI, nI_ltI, nI_eq, nI_clamp, q_nle, q_le, q_nlt, q_lt, q_mlt, q_mle, q_ltm, q_lem, q_eqm, q_meq, Nat.not_lt_zero, or_false, false_or, or_true, true_or, and_true, true_and, false_and, and_false, if_true, if_false, ↓reduceIte, Option.bind_some, not_true, not_false_eq_true]
      rfl
    | succ m ih =>
      intro i n c h1 h2 h3
      obtain ⟨n, rfl⟩ : ∃ k, n = k + 1 := ⟨n - 1, by omega⟩
      simp only [L_S_sale_8, m_B_size]
      cases hb : P i with
      | false =>
        rw [fn2_f hb]
        simp (disch := omega) only [q_lit, q_m1, q_m1', nI_add, pk_mul, pk_sub, q_sh, q_b1, q_b0, nI_leI, nI_ltI, nI_eq, nI_clamp, q_nle, q_le, q_nlt, q_lt, q_mlt, q_mle, q_ltm, q_lem, q_eqm, q_meq, Nat.not_lt_zero, or_false, false_or, or_true, true_or, and_true, true_and, false_and, and_false, if_true, if_false, ↓reduceIte, Option.bind_some, not_true, not_false_eq_true, hP i (by omega), hb, bI_0]
        exact ih (i + 1) n c (by omega) (by omega) h3
      | true =>
        by_cases e : c = K
        · subst e
          rw [Nat.sub_self, fn2_z hb]
          simp (disch := omega) only [q_lit, q_m1, q_m1', nI_add, pk_mul, pk_sub, q_sh, q_b1, q_b0, nI_leI, nI_ltI, nI_eq, nI_clamp, q_nle, q_le, q_nlt, q_lt, q_mlt, q_mle, q_ltm, q_lem, q_eqm, q_meq, Nat.not_lt_zero, or_false, false_or, or_true, true_or, and_true, true_and, false_and, and_false, if_true, if_false, ↓reduceIte, Option.bind_some, not_true, not_false_eq_true, hP i (by omega), hb, bI_0, Bool.true_eq_false]
          rfl
        · obtain ⟨q, hq⟩ : ∃ q, K - c = q + 1 := ⟨K - c - 1, by omega⟩
          rw [hq, fn2_t hb]
          simp (disch := omega) only [q_lit, q_m1, q_m1', nI_add, pk_mul, pk_sub, q_sh, q_b1, q_b0, nI_leI, nI_ltI, nI_eq, nI_clamp, q_nle, q_le, q_nlt, q_lt, q_mlt, q_mle, q_ltm, q_lem, q_eqm, q_meq, Nat.not_lt_zero, or_false, false_or, or_true, true_or, and_true, true_and, false_and, and_false, if_true, if_false, ↓reduceIte, Option.bind_some, not_true, not_false_eq_true, hP i (by omega), hb, bI_0, Bool.true_eq_false, e]
          have e2 : q = K - (c + 1) := by omega
          rw [e2]
          exact ih (i + 1) n (c + 1) (by omega) (by omega) (by omega)
  exact key np 0 N 0 (by omega) (by omega) (by omega)
def o2 {α : Type} (x : Nat ⊕ Nat) (a f : Nat → α) : α :=
  match x with
  | .inl o => a o
  | .inr k => f k
theorem e_s41 {N np no td ho uo dd K : Nat} {um cf : Nat → Nat} {cm dcm up du db hp hl rf rt : Nat → Int32} {uu hh y1 thr : Int32} {Kc : _} (hN : 11 ≤ N) (hnp : np ≤ 10) (hno : no ≤ 10) (hU : I_U np no um uo up uu du db) (hH : I_H np no td ho hp hl hh rf rt) (hC : I_C np td cf cm dcm) (h1 : td ≤ 9999) (hdd : dd ≤ 9999) (hK : K < 2 ^ 31) :
    L_D_sale_41 N (nI td) (nI np) dcm du rf rt Kc N y1 (nI K) (nI dd) (nI 0) thr = o2 (fn2 (pdB um cf hp dd) np 0 K) (fun o => some (nI o, thr)) (fun k => Kc y1 (nI k) (nI dd) (nI np) thr) := by
  have key : ∀ m i n k, i + m = np → m < n → k < 2 ^ 31 → L_D_sale_41 N (nI td) (nI np) dcm du rf rt Kc n y1 (nI k) (nI dd) (nI i) thr = o2 (fn2 (pdB um cf hp dd) m i k) (fun o => some (nI o, thr)) (fun k => Kc y1 (nI k) (nI dd) (nI np) thr) := by
    intro m
    induction m with
    | zero =>
      intro i n k h1 h2 h3
      obtain ⟨n, rfl⟩ : ∃ k, n = k + 1 := ⟨n - 1, by omega⟩
      obtain rfl : i = np := by omega
      simp only [L_D_sale_41]
      simp (disch := omega) only [q_lit, q_m1, q_m1', nI_add, pk_mul, pk_sub, q_sh, q_b1, q_b0, nI_leI, nI_ltI, nI_eq, nI_clamp, q_nle, q_le, q_nlt, q_lt, q_mlt, q_mle, q_ltm, q_lem, q_eqm, q_meq, Nat.not_lt_zero, or_false, false_or, or_true, true_or, and_true, true_and, false_and, and_false, if_true, if_false, ↓reduceIte, Option.bind_some, not_true, not_false_eq_true]
      rfl
    | succ m ih =>
      intro i n k h1 h2 h3
      obtain ⟨n, rfl⟩ : ∃ k, n = k + 1 := ⟨n - 1, by omega⟩
      obtain ⟨a1, a2, a3⟩ := hC.1 i (by omega)
      obtain ⟨v1, v2, v3⟩ := hU.2.2.1 i (by omega)
      have hre := e_resv (p := i) (by omega) (hH.2.2.1 i (by omega))
      simp only [L_D_sale_41]
      by_cases c1 : cf i = dd
      · by_cases c2 : um i = 0
        · rcases hH.2.2.2.2.1 i (by omega) with y | ⟨o, y1, y2, _⟩
          · have hb : pdB um cf hp dd i = true := by unfold pdB; simp [c1, c2, y]
            cases k with
            | zero =>
              rw [fn2_z hb]
              simp (disch := omega) only [q_lit, q_m1, q_m1', nI_add, pk_mul, pk_sub, q_sh, q_b1, q_b0, nI_leI, nI_ltI, nI_eq, nI_clamp, q_nle, q_le, q_nlt, q_lt, q_mlt, q_mle, q_ltm, q_lem, q_eqm, q_meq, Nat.not_lt_zero, or_false, false_or, or_true, true_or, and_true, true_and, false_and, and_false, if_true, if_false, ↓reduceIte, Option.bind_some, not_true, not_false_eq_true, a2, c1, c2, v3, bI_0, ne_eq, decide_false, hre, y]
              rfl
            | succ k =>
              have hm : nI (k + 1) + mI = nI k := pk_m1 k
              rw [fn2_t hb]
              simp (disch := omega) only [q_lit, q_m1, q_m1', nI_add, pk_mul, pk_sub, q_sh, q_b1, q_b0, nI_leI, nI_ltI, nI_eq, nI_clamp, q_nle, q_le, q_nlt, q_lt, q_mlt, q_mle, q_ltm, q_lem, q_eqm, q_meq, Nat.not_lt_zero, or_false, false_or, or_true, true_or, and_true, true_and, false_and, and_false, if_true, if_false, ↓reduceIte, Option.bind_some, not_true, not_false_eq_true, a2, c1, c2, v3, bI_0, ne_eq, decide_false, hre, y, hm, Nat.add_eq_zero_iff, Nat.one_ne_zero]
              exact ih (i + 1) n k (by omega) (by omega) (by omega)
          · have hb : pdB um cf hp dd i = false := by
              unfold pdB
              rw [y2, decide_eq_false (show ¬ nI o = mI by rw [q_eqm (by omega)]; exact id)]
              simp
            rw [fn2_f hb]
            simp (disch := omega) only [q_lit, q_m1, q_m1', nI_add, pk_mul, pk_sub, q_sh, q_b1, q_b0, nI_leI, nI_ltI, nI_eq, nI_clamp, q_nle, q_le, q_nlt, q_lt, q_mlt, q_mle, q_ltm, q_lem, q_eqm, q_meq, Nat.not_lt_zero, or_false, false_or, or_true, true_or, and_true, true_and, false_and, and_false, if_true, if_false, ↓reduceIte, Option.bind_some, not_true, not_false_eq_true, a2, c1, c2, v3, bI_0, ne_eq, decide_false, hre, y2]
            exact ih (i + 1) n k (by omega) (by omega) h3
        · have hb : pdB um cf hp dd i = false := by unfold pdB; simp [c2]
          rw [fn2_f hb]
          simp (disch := omega) only [q_lit, q_m1, q_m1', nI_add, pk_mul, pk_sub, q_sh, q_b1, q_b0, nI_leI, nI_ltI, nI_eq, nI_clamp, q_nle, q_le, q_nlt, q_lt, q_mlt, q_mle, q_ltm, q_lem, q_eqm, q_meq, Nat.not_lt_zero, or_false, false_or, or_true, true_or, and_true, true_and, false_and, and_false, if_true, if_false, ↓reduceIte, Option.bind_some, not_true, not_false_eq_true, a2, c1, c2, v3, bI_0, ne_eq, decide_true, Bool.true_eq_false]
          exact ih (i + 1) n k (by omega) (by omega) h3
      · have hb : pdB um cf hp dd i = false := by unfold pdB; simp [c1]
        rw [fn2_f hb]
        simp (disch := omega) only [q_lit, q_m1, q_m1', nI_add, pk_mul, pk_sub, q_sh, q_b1, q_b0, nI_leI, nI_ltI, nI_eq, nI_clamp, q_nle, q_le, q_nlt, q_lt, q_mlt, q_mle, q_ltm, q_lem, q_eqm, q_meq, Nat.not_lt_zero, or_false, false_or, or_true, true_or, and_true, true_and, false_and, and_false, if_true, if_false, ↓reduceIte, Option.bind_some, not_true, not_false_eq_true, a2, c1]
        exact ih (i + 1) n k (by omega) (by omega) h3
  exact key np 0 N K (by omega) (by omega) hK
theorem fn2_le {P : Nat → Bool} (m : Nat) : ∀ i k k', fn2 P m i k = .inr k' → k' ≤ k := by
  induction m with
  | zero => intro i k k' h; cases h; exact Nat.le_refl _
  | succ m ih =>
    intro i k k' h
    cases hp : P i with
    | false => rw [fn2_f hp] at h; exact ih _ _ _ h
    | true =>
      cases k with
      | zero => rw [fn2_z hp] at h; cases h
      | succ k => rw [fn2_t hp] at h; have := ih _ _ _ h; omega
theorem mono_a {np : Nat} {cf : Nat → Nat} (h : ∀ i j, i ≤ j → j < np → cf i ≤ cf j) (dd : Nat) : ∃ a, a ≤ np ∧ ∀ p, p < np → (cf p < dd ↔ p < a) := by
  obtain ⟨k, h1, h2⟩ := pk_least (fun p => p = np ∨ (p < np ∧ dd ≤ cf p)) ⟨np, Or.inl rfl⟩
  refine ⟨k, by omega, fun p hp => ⟨fun hc => ?_, fun hc => ?_⟩⟩
  · refine Classical.byContradiction (fun q => ?_)
    have h3 : k < np ∧ dd ≤ cf k := by
      rcases h1 with x | x
      · omega
      · exact x
    have := h k p (by omega) hp
    omega
  · refine Classical.byContradiction (fun q => ?_)
    exact h2 p hc (Or.inr ⟨hp, by omega⟩)
theorem e_s25 {N np no td sl ho uo K : Nat} {um cf : Nat → Nat} {cm dcm up du db hp hl rf rt : Nat → Int32} {uu hh thr : Int32} (hN : 10001 ≤ N) (hnp : np ≤ 10) (hno : no ≤ 10) (hU : I_U np no um uo up uu du db) (hH : I_H np no td ho hp hl hh rf rt) (hC : I_C np td cf cm dcm) (h1 : td ≤ 9999) (h4 : sl ≤ 9999) (hK : K < 2 ^ 31) :
    L_D_sale_25 N (nI td) (nI sl) (nI np) dcm du rf rt (fun y1a y2a y3a d_throwna => some (mI, d_throwna)) N (nI K) (nI K) (nI 0) thr = some (r2 (fn2 (pfB um cf hp td sl) np 0 K), thr) := by
  have hcf : ∀ p, p < np → cf p ≤ td := fun p hp => (hC.1 p hp).2.2
  by_cases hsl : sl ≤ td
  · have key : ∀ m dd n k a, dd + m = td - sl + 1 → m < n → k < 2 ^ 31 → a ≤ np → (∀ p, p < np → (cf p < dd ↔ p < a)) → L_D_sale_25 N (nI td) (nI sl) (nI np) dcm du rf rt (fun y1a y2a y3a d_throwna => some (mI, d_throwna)) n (nI K) (nI k) (nI dd) thr = some (r2 (fn2 (pfB um cf hp td sl) (np - a) a k), thr) := by
      intro m
      induction m with
      | zero =>
        intro dd n k a q1 q2 q3 q4 q5
        obtain ⟨n, rfl⟩ : ∃ k, n = k + 1 := ⟨n - 1, by omega⟩
        have hfn : fn2 (pfB um cf hp td sl) (np - a) a k = .inr k := fn2_n _ _ _ (fun j j1 j2 => by
          have := q5 j (by omega)
          have := hcf j (by omega)
          unfold pfB
          rw [decide_eq_false (show ¬ sl ≤ td - cf j by omega), Bool.and_false])
        rw [hfn]
        simp only [L_D_sale_25]
        simp (disch := omega) only [q_lit, q_m1, q_m1', nI_add, pk_mul, pk_sub, q_sh, q_b1, q_b0, nI_leI, nI_ltI, nI_eq, nI_clamp, q_nle, q_le, q_nlt, q_lt, q_mlt, q_mle, q_ltm, q_lem, q_eqm, q_meq, Nat.not_lt_zero, or_false, false_or, or_true, true_or, and_true, true_and, false_and, and_false, if_true, if_false, ↓reduceIte, Option.bind_some, not_true, not_false_eq_true]
        rfl
      | succ m ih =>
        intro dd n k a q1 q2 q3 q4 q5
        obtain ⟨n, rfl⟩ : ∃ k, n = k + 1 := ⟨n - 1, by omega⟩
        obtain ⟨a', r1, r2'⟩ := mono_a hC.2 (dd + 1)
        have haa : a ≤ a' := by
          refine Classical.byContradiction (fun q => ?_)
          have z1 := q5 a' (by omega)
          have z2 := r2' a' (by omega)
          omega
        have hex : ¬ (nI td - nI sl) < nI dd := by
          rw [pk_sub hsl]
          exact nI_nlt (by omega) (by omega)
        have e1 : fn2 (pdB um cf hp dd) np 0 k = fn2 (pfB um cf hp td sl) (a' - a) a k := by
          have hnp' : np = a + ((a' - a) + (np - a')) := by omega
          have hc : fn2 (pdB um cf hp dd) np 0 k = fn2 (pdB um cf hp dd) (a + ((a' - a) + (np - a'))) 0 k := congrArg (fun z => fn2 (pdB um cf hp dd) z 0 k) hnp'
          rw [hc, fn2_s, fn2_n a 0 k (fun j j1 j2 => by
            have := q5 j (by omega)
            unfold pdB
            rw [decide_eq_false (show ¬ cf j = dd by omega), Bool.and_false])]
          show fn2 (pdB um cf hp dd) ((a' - a) + (np - a')) (0 + a) k = _
          rw [Nat.zero_add, fn2_s]
          have hm : fn2 (pdB um cf hp dd) (a' - a) a k = fn2 (pfB um cf hp td sl) (a' - a) a k := fn2_c _ _ _ (fun j j1 j2 => by
            have z1 := q5 j (by omega)
            have z2 := r2' j (by omega)
            have z3 := hcf j (by omega)
            unfold pdB pfB
            rw [decide_eq_true (show cf j = dd by omega), decide_eq_true (show sl ≤ td - cf j by omega)])
          rw [hm]
          cases hx : fn2 (pfB um cf hp td sl) (a' - a) a k with
          | inl o => rfl
          | inr k' =>
            show fn2 (pdB um cf hp dd) (np - a') (a + (a' - a)) k' = _
            exact fn2_n _ _ _ (fun j j1 j2 => by
              have z2 := r2' j (by omega)
              unfold pdB
              rw [decide_eq_false (show ¬ cf j = dd by omega), Bool.and_false])
        have e2 : fn2 (pfB um cf hp td sl) (np - a) a k = s2 (fn2 (pfB um cf hp td sl) (a' - a) a k) (fun k' => fn2 (pfB um cf hp td sl) (np - a') a' k') := by
          have hnp' : np - a = (a' - a) + (np - a') := by omega
          have ha' : a + (a' - a) = a' := by omega
          rw [hnp', fn2_s, ha']
        simp only [L_D_sale_25]
        rw [if_neg hex]
        refine (e_s41 (K := k) (dd := dd) (by omega) hnp hno hU hH hC h1 (by omega) q3).trans ?_
        rw [e1, e2]
        cases hx : fn2 (pfB um cf hp td sl) (a' - a) a k with
        | inl o => rfl
        | inr k' =>
          have hle := fn2_le _ _ _ _ hx
          have hi := ih (dd + 1) n k' a' (by omega) (by omega) (by omega) r1 r2'
          rw [← nI_1 dd] at hi
          exact hi
    have := key (td - sl + 1) 0 N K 0 (by omega) (by omega) hK (by omega) (fun p hp => ⟨fun x => by omega, fun x => by omega⟩)
    exact this
  · obtain ⟨n, rfl⟩ : ∃ k, N = k + 1 := ⟨N - 1, by omega⟩
    have hfn : fn2 (pfB um cf hp td sl) np 0 K = .inr K := fn2_n _ _ _ (fun j j1 j2 => by
      unfold pfB
      rw [decide_eq_false (show ¬ sl ≤ td - cf j by omega), Bool.and_false])
    rw [hfn]
    have hex : (nI td - nI sl) < nI 0 := pk_sneg (by omega) (by omega)
    simp only [L_D_sale_25]
    rw [if_pos hex]
    rfl
theorem k_14 {N np no td sl ho uo : Nat} {um cf : Nat → Nat} {cm dcm up du db hp hl rf rt : Nat → Int32} {uu hh : Int32} (hN : 10001 ≤ N) (hnp : np ≤ 10) (hno : no ≤ 10) (hU : I_U np no um uo up uu du db) (hH : I_H np no td ho hp hl hh rf rt) (hC : I_C np td cf cm dcm) (h1 : td ≤ 9999) (h4 : sl ≤ 9999) (jo : Nat → Int64) (x1 : Int32) :
    ∃ jo' thr, m_L_case14 N (nI np) cm up hp (nI td) (nI sl) (nI td) (nI sl) (nI np) dcm du rf rt jo x1 = some (jo', thr) := by
  unfold m_L_case14 m_L_sale m_S_sale m_S_refuseNegative m_D_sale
  by_cases hn : x1 < nI 0
  · have hn' : ¬ nI 0 ≤ x1 := Int32.not_le.mpr hn
    refine ⟨jo, nI 1, ?_⟩
    simp (disch := omega) only [q_lit, q_m1, q_m1', nI_add, pk_mul, pk_sub, q_sh, q_b1, q_b0, nI_leI, nI_ltI, nI_eq, nI_clamp, q_nle, q_le, q_nlt, q_lt, q_mlt, q_mle, q_ltm, q_lem, q_eqm, q_meq, Nat.not_lt_zero, or_false, false_or, or_true, true_or, and_true, true_and, false_and, and_false, if_true, if_false, ↓reduceIte, Option.bind_some, not_true, not_false_eq_true, hn, hn', tk, tc, m_D_goes, m_D_thrown, Nat.one_ne_zero, Nat.reduceEqDiff]
  · obtain ⟨K, hK, rfl⟩ := nI_of hn
    have ea := e_saleS (N := N) (np := np) (K := K) (by omega) hnp hK (fun p hp1 => e_fsale (hp := hp) (sl := sl) (hl := hl) (rf := rf) (rt := rt) (hh := hh) (ho := ho) hnp hno hU hC h1 h4 hp1)
    have eb := fun (thr : Int32) => e_s25 (N := N) (thr := thr) hN hnp hno hU hH hC h1 h4 hK
    refine ⟨vp_updL jo 0 (r2 (fn2 (pfB um cf hp td sl) np 0 K)).toInt64, nI 0, ?_⟩
    simp (disch := omega) only [q_lit, q_m1, q_m1', nI_add, pk_mul, pk_sub, q_sh, q_b1, q_b0, nI_leI, nI_ltI, nI_eq, nI_clamp, q_nle, q_le, q_nlt, q_lt, q_mlt, q_mle, q_ltm, q_lem, q_eqm, q_meq, Nat.not_lt_zero, or_false, false_or, or_true, true_or, and_true, true_and, false_and, and_false, if_true, if_false, ↓reduceIte, Option.bind_some, not_true, not_false_eq_true, ea, eb, tk, tc, m_D_goes, m_D_thrown, Nat.one_ne_zero, Nat.reduceEqDiff, pk_uLs, q_ceq, Nat.zero_le]
