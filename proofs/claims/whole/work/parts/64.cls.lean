/-! Own rows: the class's offers and its best gains. -/
def gf (my : Nat → Nat → Bool) (nt : Nat → Nat → Nat) (p o : Nat) : Nat := if my p o = true then nt p o * 16 + 1 else 0
theorem TM_s (h : Nat → Nat) (f : (Nat → Bool) → Nat) (S : Nat → Bool) (k : Nat) : TM h f S (k + 1) = if 0 < h k ∧ S k = false then max (TM h f S k) (f (st S k) + h k) else TM h f S k := rfl
def nb (s : Nat) : Nat → Bool := fun j => !s.testBit j
theorem e_clear {N : Nat} (hN : 101 ≤ N) (gn : Nat → Int32) : ∃ g', m_M_clearOffers N gn = some g' ∧ ∀ k, k < 100 → g' k = nI 0 := by
  unfold m_M_clearOffers
  obtain ⟨s', e, h⟩ := lpU (fun n i s => L_M_clearOffers_2 N (fun y1a m_gainsa => some m_gainsa) n (nI i) s) (fun s => some s) (fun i s => ∀ k, k < i → s k = nI 0) 100
    (fun n s _ => by
      simp only [L_M_clearOffers_2]
      simp (disch := omega) only [q_lit, q_m1, q_m1', nI_add, pk_mul, pk_sub, q_sh, q_b1, q_b0, nI_leI, nI_ltI, nI_eq, nI_clamp, q_nle, q_le, q_nlt, q_lt, q_mlt, q_mle, q_ltm, q_lem, q_eqm, q_meq, Nat.not_lt_zero, or_false, false_or, or_true, true_or, and_true, true_and, false_and, and_false, if_true, if_false, ↓reduceIte, Option.bind_some, not_true, not_false_eq_true])
    (fun n i s hi h => by
      refine ⟨upd s i (nI 0), ?_, fun k hk => ?_⟩
      · simp only [L_M_clearOffers_2]
        simp (disch := omega) only [q_lit, q_m1, q_m1', nI_add, pk_mul, pk_sub, q_sh, q_b1, q_b0, nI_leI, nI_ltI, nI_eq, nI_clamp, q_nle, q_le, q_nlt, q_lt, q_mlt, q_mle, q_ltm, q_lem, q_eqm, q_meq, Nat.not_lt_zero, or_false, false_or, or_true, true_or, and_true, true_and, false_and, and_false, if_true, if_false, ↓reduceIte, Option.bind_some, not_true, not_false_eq_true]
      · by_cases e : k = i
        · subst e; exact pk_us
        · rw [pk_un e]; exact h k (by omega)) N 0 gn (by omega) (by omega) (fun k hk => by omega)
  exact ⟨s', e, h⟩
theorem e_offer {g : Nat → Int32} {p o v : Nat} (hp : p < 10) (ho : o < 10) : m_M_offer g (nI p) (nI o) (nI v) = some (upd g (10 * p + o) (nI (v * 16 + 1))) := by
  unfold m_M_offer m_S_pairIndex
  have e : p * 10 + o = 10 * p + o := by omega
  simp (disch := omega) only [q_lit, q_m1, q_m1', nI_add, pk_mul, pk_sub, q_sh, q_b1, q_b0, nI_leI, nI_ltI, nI_eq, nI_clamp, q_nle, q_le, q_nlt, q_lt, q_mlt, q_mle, q_ltm, q_lem, q_eqm, q_meq, Nat.not_lt_zero, or_false, false_or, or_true, true_or, and_true, true_and, false_and, and_false, if_true, if_false, ↓reduceIte, Option.bind_some, not_true, not_false_eq_true, e]
def JO (no : Nat) (g : Nat → Nat → Nat) (p i : Nat) (s : Nat → Int32) : Prop := ∀ q o, q < 10 → o < 10 → s (10 * q + o) = nI (if o < no ∧ (q < p ∨ (q = p ∧ o < i)) then g q o else 0)
theorem e_offers {N np no : Nat} {t w l g t' w' l' g' cm tl up hp : Nat → Int32} {uu hh td ct ag : Int32} {my : Nat → Nat → Bool} {nt : Nat → Nat → Nat} (gn : Nat → Int32) (hN : 101 ≤ N) (hnp : np ≤ 10) (hno : no ≤ 10)
    (hm : ∀ p o, p < np → o < no → m_S_mayPair t w l g t' w' l' g' up uu hp hh (nI p) (nI o) = some (bI (my p o))) (hw : ∀ p o, p < np → o < no → m_S_worthToday w l w' l' cm tl td ct ag (nI p) (nI o) = some (nI (nt p o))) :
    ∃ G, m_S_offerPairs N t w l g (nI np) t' w' l' g' (nI no) cm tl up uu hp hh gn td ct ag = some G ∧ ∀ p o, p < np → o < no → G (10 * p + o) = nI (gf my nt p o) := by
  unfold m_S_offerPairs
  obtain ⟨g0, e0, h0⟩ := e_clear hN gn
  rw [e0]
  have inner : ∀ (K : Int32 → Int32 → (Nat → Int32) → Option (Nat → Int32)) p s, p < np → JO no (gf my nt) p 0 s → ∃ s', L_S_offerPairs_22 N t w l g t' w' l' g' (nI no) cm tl up uu hp hh td ct ag K N (nI p) (nI 0) s = K (nI p) (nI no) s' ∧ JO no (gf my nt) p no s' := by
    intro K p s hpn hJ
    refine lpU (fun n i s => L_S_offerPairs_22 N t w l g t' w' l' g' (nI no) cm tl up uu hp hh td ct ag K n (nI p) (nI i) s) (fun s => K (nI p) (nI no) s) (fun i s => JO no (gf my nt) p i s) no ?_ ?_ N 0 s (by omega) (by omega) hJ
    · intro n s _
      simp only [L_S_offerPairs_22, m_B_size]
      simp (disch := omega) only [q_lit, q_m1, q_m1', nI_add, pk_mul, pk_sub, q_sh, q_b1, q_b0, nI_leI, nI_ltI, nI_eq, nI_clamp, q_nle, q_le, q_nlt, q_lt, q_mlt, q_mle, q_ltm, q_lem, q_eqm, q_meq, Nat.not_lt_zero, or_false, false_or, or_true, true_or, and_true, true_and, false_and, and_false, if_true, if_false, ↓reduceIte, Option.bind_some, not_true, not_false_eq_true]
    · intro n i s hi hJ
      simp only [L_S_offerPairs_22, m_B_size]
      simp (disch := omega) only [q_lit, q_m1, q_m1', nI_add, pk_mul, pk_sub, q_sh, q_b1, q_b0, nI_leI, nI_ltI, nI_eq, nI_clamp, q_nle, q_le, q_nlt, q_lt, q_mlt, q_mle, q_ltm, q_lem, q_eqm, q_meq, Nat.not_lt_zero, or_false, false_or, or_true, true_or, and_true, true_and, false_and, and_false, if_true, if_false, ↓reduceIte, Option.bind_some, not_true, not_false_eq_true, hm p i hpn hi, hw p i hpn hi, bI_0]
      cases hb : my p i
      · refine ⟨s, by simp, fun q o hq ho => ?_⟩
        rw [hJ q o hq ho]
        refine congrArg nI ?_
        by_cases e : q = p ∧ o = i
        · obtain ⟨rfl, rfl⟩ := e
          rw [if_neg (by omega), if_pos (by omega)]
          unfold gf; rw [hb]; rfl
        · by_cases c : o < no ∧ (q < p ∨ (q = p ∧ o < i))
          · rw [if_pos c, if_pos (by omega)]
          · rw [if_neg c, if_neg (by omega)]
      · refine ⟨upd s (10 * p + i) (nI (nt p i * 16 + 1)), ?_, fun q o hq ho => ?_⟩
        · simp only [e_offer (show p < 10 by omega) (show i < 10 by omega), Option.bind_some]
          simp
        · by_cases e : q = p ∧ o = i
          · obtain ⟨rfl, rfl⟩ := e
            rw [pk_us, if_pos (by omega)]
            unfold gf; rw [hb]; rfl
          · rw [pk_un (by omega), hJ q o hq ho]
            refine congrArg nI ?_
            by_cases c : o < no ∧ (q < p ∨ (q = p ∧ o < i))
            · rw [if_pos c, if_pos (by omega)]
            · rw [if_neg c, if_neg (by omega)]
  obtain ⟨G, e1, hJ⟩ := lpU (fun n i s => L_S_offerPairs_9 N t w l g (nI np) t' w' l' g' (nI no) cm tl up uu hp hh td ct ag (fun y1a m_gainsa => some m_gainsa) n (nI i) s) (fun s => some s) (fun i s => JO no (gf my nt) i 0 s) np
    (fun n s _ => by
      simp only [L_S_offerPairs_9, m_B_size]
      simp (disch := omega) only [q_lit, q_m1, q_m1', nI_add, pk_mul, pk_sub, q_sh, q_b1, q_b0, nI_leI, nI_ltI, nI_eq, nI_clamp, q_nle, q_le, q_nlt, q_lt, q_mlt, q_mle, q_ltm, q_lem, q_eqm, q_meq, Nat.not_lt_zero, or_false, false_or, or_true, true_or, and_true, true_and, false_and, and_false, if_true, if_false, ↓reduceIte, Option.bind_some, not_true, not_false_eq_true])
    (fun n i s hi hJ => by
      obtain ⟨s', e, hJ'⟩ := inner (fun y1b y2b m_gainsb => L_S_offerPairs_9 N t w l g (nI np) t' w' l' g' (nI no) cm tl up uu hp hh td ct ag (fun y1a m_gainsa => some m_gainsa) n (y1b + 1) m_gainsb) i s hi hJ
      refine ⟨s', ?_, fun q o hq ho => ?_⟩
      · simp only [L_S_offerPairs_9, m_B_size]
        simp (disch := omega) only [q_lit, nI_leI, q_nle, if_false, ↓reduceIte, Option.bind_some]
        refine e.trans ?_
        simp only [q_lit, nI_add]
      · rw [hJ' q o hq ho]
        refine congrArg nI ?_
        by_cases c : o < no ∧ (q < i ∨ (q = i ∧ o < no))
        · rw [if_pos c, if_pos (by omega)]
        · rw [if_neg c, if_neg (by omega)]) N 0 g0 (by omega) (by omega) (fun q o hq ho => by rw [h0 _ (by omega), if_neg (by omega)])
  refine ⟨G, e1, fun p o h1 h2 => ?_⟩
  rw [hJ p o (by omega) (by omega), if_pos (by omega)]
theorem e_improve {N no r o v : Nat} {bst : Nat → Int32} {f h : Nat → Nat} (hN : 1025 ≤ N) (hno : no ≤ 10) (ho : o < no) (hr1 : 1 ≤ r) (hr : r ≤ 10) (hv : v ≤ 16000001) (hf : ∀ s, s < 2 ^ no → bst (1024 * (r - 1) + s) = nI (f s) ∧ f s ≤ 200000000) (hh : ∀ s, s < 2 ^ no → bst (1024 * r + s) = nI (h s) ∧ h s ≤ 200000000) :
    ∃ b', m_M_improveRow N bst (nI no) (nI r) (nI o) (nI v) = some b' ∧ (∀ s, s < 2 ^ no → b' (1024 * r + s) = nI (if s.testBit o = true then max (h s) (f (s - 2 ^ o) + v) else h s)) ∧ ∀ i, (i < 1024 * r ∨ 1024 * r + 1024 ≤ i) → b' i = bst i := by
  have p1 := q_p2' hno
  have p2 := q_p2 (k := o) (by omega)
  have p3 := q_p0' o
  unfold m_M_improveRow
  have a1 : nI r * 1024 = nI (1024 * r) := by
    show nI r * nI 1024 = _
    rw [pk_mul, Nat.mul_comm]
  have a2 : nI (1024 * r) - 1024 = nI (1024 * (r - 1)) := by
    show nI (1024 * r) - nI 1024 = _
    rw [pk_sub (by omega)]
    exact congrArg nI (by omega)
  have a3 : (1 : Int32) <<< (nI o &&& 31) = nI (2 ^ o) := q_sh (by omega)
  have a4 : (1 : Int32) <<< (nI no &&& 31) = nI (2 ^ no) := q_sh (by omega)
  rw [a1, a2, a3, a4]
  obtain ⟨i', b', h1, e, h2, h3, h4, h5⟩ := lpG (fun n s b => L_M_improveRow_32 N (fun y1a y2a y3a y4a y5a y6a y7a y8a m_besta => some m_besta) n (nI r) (nI o) (nI v) (nI (1024 * r)) (nI (1024 * (r - 1))) (nI (2 ^ o)) (nI (2 ^ no)) (nI s) b) (fun _ b => some b)
    (fun s b => s.testBit o = true ∧ s < 2048 ∧ (∀ t, t < 2 ^ no → b (1024 * r + t) = nI (if t < s ∧ t.testBit o = true then max (h t) (f (t - 2 ^ o) + v) else h t)) ∧ ∀ i, (i < 1024 * r ∨ 1024 * r + 1024 ≤ i) → b i = bst i) (2 ^ no)
    (fun n s b hs ⟨c1, c2, c3, c4⟩ => by
      simp only [L_M_improveRow_32]
      simp (disch := omega) only [nI_leI, q_le, ↓reduceIte])
    (fun n s b hs ⟨c1, c2, c3, c4⟩ => by
      have d1 := Nat.ge_two_pow_of_testBit c1
      have d2 : s + 1 ≤ (s + 1) ||| 2 ^ o := Nat.left_le_or
      have d3 : (s + 1) ||| 2 ^ o < 2048 := Nat.or_lt_two_pow (n := 11) (by omega) (by omega)
      have d4 : ((s + 1) ||| 2 ^ o).testBit o = true := by rw [Nat.testBit_or, Nat.testBit_two_pow_self, Bool.or_true]
      have f1 : b (1024 * (r - 1) + s - 2 ^ o) = nI (f (s - 2 ^ o)) ∧ f (s - 2 ^ o) ≤ 200000000 := by
        have : 1024 * (r - 1) + s - 2 ^ o = 1024 * (r - 1) + (s - 2 ^ o) := by omega
        rw [this, c4 _ (by omega)]
        exact hf _ (by omega)
      have f2 : b (1024 * r + s) = nI (h s) := by rw [c3 s hs, if_neg (by omega)]
      have f3 := (hh s hs).2
      have nx : ∀ t, s < t → t < 2 ^ no → ((t < (s + 1) ||| 2 ^ o ∧ t.testBit o = true) ↔ (t < s ∧ t.testBit o = true)) := fun t ht ht2 => by
        constructor
        · intro ⟨x1, x2⟩
          rw [q_gap (by omega) (by omega) c1 ht x1] at x2
          cases x2
        · intro ⟨x1, _⟩; omega
      have lo : ∀ t, t < s → ((t < (s + 1) ||| 2 ^ o ∧ t.testBit o = true) ↔ (t < s ∧ t.testBit o = true)) := fun t ht => by
        constructor
        · exact fun x => ⟨ht, x.2⟩
        · exact fun x => ⟨by omega, x.2⟩
      by_cases cmp : f (s - 2 ^ o) + v ≤ h s
      · refine ⟨(s + 1) ||| 2 ^ o, b, by omega, ?_, d4, d3, fun t ht => ?_, c4⟩
        · simp only [L_M_improveRow_32]
          simp (disch := omega) only [q_lit, q_m1, q_m1', nI_add, pk_mul, pk_sub, q_sh, q_b1, q_b0, nI_leI, nI_ltI, nI_eq, nI_clamp, q_nle, q_le, q_nlt, q_lt, q_mlt, q_mle, q_ltm, q_lem, q_eqm, q_meq, Nat.not_lt_zero, or_false, false_or, or_true, true_or, and_true, true_and, false_and, and_false, if_true, if_false, ↓reduceIte, Option.bind_some, not_true, not_false_eq_true, q_or, f1.1, f2, Nat.add_comm v]
        · rw [c3 t ht]
          rcases Nat.lt_trichotomy t s with x | x | x
          · simp only [lo t x]
          · subst x
            rw [if_neg (by omega), if_pos ⟨by omega, c1⟩]
            exact congrArg nI (by omega)
          · simp only [nx t x ht]
      · refine ⟨(s + 1) ||| 2 ^ o, upd b (1024 * r + s) (nI (f (s - 2 ^ o) + v)), by omega, ?_, d4, d3, fun t ht => ?_, fun i hi => ?_⟩
        · simp only [L_M_improveRow_32]
          simp (disch := omega) only [q_lit, q_m1, q_m1', nI_add, pk_mul, pk_sub, q_sh, q_b1, q_b0, nI_leI, nI_ltI, nI_eq, nI_clamp, q_nle, q_le, q_nlt, q_lt, q_mlt, q_mle, q_ltm, q_lem, q_eqm, q_meq, Nat.not_lt_zero, or_false, false_or, or_true, true_or, and_true, true_and, false_and, and_false, if_true, if_false, ↓reduceIte, Option.bind_some, not_true, not_false_eq_true, q_or, f1.1, f2, Nat.add_comm v]
        · rcases Nat.lt_trichotomy t s with x | x | x
          · rw [pk_un (by omega), c3 t ht]; simp only [lo t x]
          · subst x
            rw [pk_us, if_pos ⟨by omega, c1⟩]
            exact congrArg nI (by omega)
          · rw [pk_un (by omega), c3 t ht]; simp only [nx t x ht]
        · rw [pk_un (by omega)]; exact c4 i hi) N (2 ^ o) bst (by omega) ⟨Nat.testBit_two_pow_self, by omega, fun t ht => by
      rw [(hh t ht).1]
      by_cases c : t < 2 ^ o ∧ t.testBit o = true
      · have := Nat.ge_two_pow_of_testBit c.2; omega
      · rw [if_neg c], fun _ _ => rfl⟩
  refine ⟨b', e, fun s hs => ?_, h5⟩
  rw [h4 s hs]
  by_cases c : s.testBit o = true
  · rw [if_pos ⟨by omega, c⟩, if_pos c]
  · rw [if_neg (fun x => c x.2), if_neg c]
theorem e_fillBest {N np no : Nat} {G bst : Nat → Int32} {g : Nat → Nat → Nat} (hN : 1025 ≤ N) (hnp : np ≤ 10) (hno : no ≤ 10) (hg : ∀ p o, p < np → o < no → g p o ≤ 16000001) (hG : ∀ p o, p < np → o < no → G (10 * p + o) = nI (g p o)) (hz : ∀ s, s < 1024 → bst s = nI 0) :
    ∃ b', m_M_fillBest N G bst (nI np) (nI no) = some b' ∧ (∀ r s, r ≤ np → s < 2 ^ no → b' (1024 * r + s) = nI (TT g no np r (nb s))) ∧ ∀ s, s < 1024 → b' s = nI 0 := by
  have p1 := q_p2' hno
  unfold m_M_fillBest
  have inner : ∀ (K : Int32 → Int32 → (Nat → Int32) → Option (Nat → Int32)) r b, 1 ≤ r → r ≤ np → (∀ q s, q < r → s < 2 ^ no → b (1024 * q + s) = nI (TT g no np q (nb s))) → (∀ s, s < 2 ^ no → b (1024 * r + s) = nI (TT g no np (r - 1) (nb s))) → (∀ s, s < 1024 → b s = nI 0) →
      ∃ b', L_M_fillBest_41 N G (nI np) (nI no) K N (nI r) (nI 0) b = K (nI r) (nI no) b' ∧ (∀ q s, q < r → s < 2 ^ no → b' (1024 * q + s) = nI (TT g no np q (nb s))) ∧ (∀ s, s < 2 ^ no → b' (1024 * r + s) = nI (TT g no np r (nb s))) ∧ ∀ s, s < 1024 → b' s = nI 0 := by
    intro K r b hr1 hr2 h1 h2 h3
    obtain ⟨r, rfl⟩ : ∃ k, r = k + 1 := ⟨r - 1, by omega⟩
    obtain ⟨b', e, c1, c2, c3⟩ := lpU (fun n i b => L_M_fillBest_41 N G (nI np) (nI no) K n (nI (r + 1)) (nI i) b) (fun b => K (nI (r + 1)) (nI no) b)
      (fun i b => (∀ q s, q < r + 1 → s < 2 ^ no → b (1024 * q + s) = nI (TT g no np q (nb s))) ∧ (∀ s, s < 2 ^ no → b (1024 * (r + 1) + s) = nI (TM (g (np - (r + 1))) (TT g no np r) (nb s) i)) ∧ ∀ s, s < 1024 → b s = nI 0) no
      (fun n b _ => by
        simp only [L_M_fillBest_41]
        simp (disch := omega) only [q_lit, q_m1, q_m1', nI_add, pk_mul, pk_sub, q_sh, q_b1, q_b0, nI_leI, nI_ltI, nI_eq, nI_clamp, q_nle, q_le, q_nlt, q_lt, q_mlt, q_mle, q_ltm, q_lem, q_eqm, q_meq, Nat.not_lt_zero, or_false, false_or, or_true, true_or, and_true, true_and, false_and, and_false, if_true, if_false, ↓reduceIte, Option.bind_some, not_true, not_false_eq_true])
      (fun n i b hi ⟨c1, c2, c3⟩ => by
        have hgi := hG (np - (r + 1)) i (by omega) hi
        have hgb := hg (np - (r + 1)) i (by omega) hi
        have ix : (np - (r + 1)) * 10 + i = 10 * (np - (r + 1)) + i := by omega
        by_cases h0 : g (np - (r + 1)) i = 0
        · refine ⟨b, ?_, c1, fun s hs => ?_, c3⟩
          · simp only [L_M_fillBest_41, m_S_pairIndex]
            simp (disch := omega) only [q_lit, q_m1, q_m1', nI_add, pk_mul, pk_sub, q_sh, q_b1, q_b0, nI_leI, nI_ltI, nI_eq, nI_clamp, q_nle, q_le, q_nlt, q_lt, q_mlt, q_mle, q_ltm, q_lem, q_eqm, q_meq, Nat.not_lt_zero, or_false, false_or, or_true, true_or, and_true, true_and, false_and, and_false, if_true, if_false, ↓reduceIte, Option.bind_some, not_true, not_false_eq_true, ix, hgi, h0]
          · rw [c2 s hs]
            rw [TM_s, if_neg (by omega)]
        · obtain ⟨b', e, d1, d2⟩ := e_improve (N := N) (no := no) (r := r + 1) (o := i) (v := g (np - (r + 1)) i) (bst := b) (f := fun s => TT g no np r (nb s)) (h := fun s => TM (g (np - (r + 1))) (TT g no np r) (nb s) i) hN hno hi (by omega) (by omega) hgb
            (fun s hs => ⟨c1 r s (by omega) hs, by have := TT_bd g 16000001 no np hg r (by omega) (nb s); omega⟩) (fun s hs => ⟨c2 s hs, by have := TM_bd g 16000001 no np hg r i (by omega) (by omega) (nb s); omega⟩)
          refine ⟨b', ?_, fun q s hq hs => ?_, fun s hs => ?_, fun s hs => ?_⟩
          · simp only [L_M_fillBest_41, m_S_pairIndex]
            simp (disch := omega) only [q_lit, q_m1, q_m1', nI_add, pk_mul, pk_sub, q_sh, q_b1, q_b0, nI_leI, nI_ltI, nI_eq, nI_clamp, q_nle, q_le, q_nlt, q_lt, q_mlt, q_mle, q_ltm, q_lem, q_eqm, q_meq, Nat.not_lt_zero, or_false, false_or, or_true, true_or, and_true, true_and, false_and, and_false, if_true, if_false, ↓reduceIte, Option.bind_some, not_true, not_false_eq_true, ix, hgi, e]
          · rw [d2 _ (by omega)]; exact c1 q s hq hs
          · rw [d1 s hs]
            refine congrArg nI ?_
            rw [TM_s]
            by_cases hb : s.testBit i = true
            · have e2 : nb s i = false := by unfold nb; rw [hb]; rfl
              rw [if_pos hb, if_pos ⟨by omega, e2⟩]
              have e3 : st (nb s) i = nb (s - 2 ^ i) := st_sub (by omega) (by omega) hb
              rw [e3]
            · have e2 : ¬ nb s i = false := by unfold nb; simpa using hb
              rw [if_neg hb, if_neg (fun x => e2 x.2)]
          · rw [d2 _ (by omega)]; exact c3 s hs) N 0 b (by omega) (by omega) ⟨h1, h2, h3⟩
    exact ⟨b', e, c1, c2, c3⟩
  obtain ⟨b', e, c1, c3⟩ := lpU (fun n r b => L_M_fillBest_2 N G (nI np) (nI no) (fun y1a m_besta => some m_besta) n (nI (r + 1)) b) (fun b => some b)
    (fun r b => (∀ q s, q < r + 1 → s < 2 ^ no → b (1024 * q + s) = nI (TT g no np q (nb s))) ∧ ∀ s, s < 1024 → b s = nI 0) np
    (fun n b _ => by
      simp only [L_M_fillBest_2]
      simp (disch := omega) only [q_lit, q_m1, q_m1', nI_add, pk_mul, pk_sub, q_sh, q_b1, q_b0, nI_leI, nI_ltI, nI_eq, nI_clamp, q_nle, q_le, q_nlt, q_lt, q_mlt, q_mle, q_ltm, q_lem, q_eqm, q_meq, Nat.not_lt_zero, or_false, false_or, or_true, true_or, and_true, true_and, false_and, and_false, if_true, if_false, ↓reduceIte, Option.bind_some, not_true, not_false_eq_true])
    (fun n r b hr ⟨c1, c3⟩ => by
      have hc : ∀ q s, q < r + 1 → s < 1024 → va_cpy b b (1024 * r) (1024 * (r + 1)) (2 ^ no) (1024 * q + s) = b (1024 * q + s) := fun q s hq hs => pk_cpy_out (Or.inl (by omega))
      obtain ⟨b', e, d1, d2, d3⟩ := inner (fun y1b y2b m_bestb => L_M_fillBest_2 N G (nI np) (nI no) (fun y1a m_besta => some m_besta) n (y1b + 1) m_bestb) (r + 1) (va_cpy b b (1024 * r) (1024 * (r + 1)) (2 ^ no)) (by omega) (by omega)
        (fun q s hq hs => by rw [hc q s hq (by omega)]; exact c1 q s hq hs)
        (fun s hs => by
          rw [pk_cpy_in (by omega) (by omega)]
          have : 1024 * r + (1024 * (r + 1) + s - 1024 * (r + 1)) = 1024 * r + s := by omega
          rw [this]
          exact c1 r s (by omega) hs)
        (fun s hs => by
          have := hc 0 s (by omega) hs
          rw [show 1024 * 0 + s = s by omega] at this
          rw [this]; exact c3 s hs)
      refine ⟨b', ?_, fun q s hq hs => ?_, d3⟩
      · simp only [L_M_fillBest_2]
        have x1 : (r + 1 - 1) * 1024 = 1024 * r := Nat.mul_comm _ _
        have x2 : (r + 1) * 1024 = 1024 * (r + 1) := Nat.mul_comm _ _
        simp (disch := omega) only [q_lit, pk_sub, pk_mul, x1, x2, q_sh, nI_ltI, nI_clamp, q_nlt, or_false, if_false, ↓reduceIte]
        refine e.trans ?_
        simp only [q_lit, nI_add]
      · by_cases x : q = r + 1
        · subst x; exact d2 s hs
        · exact d1 q s (by omega) hs) N 0 bst (by omega) (by omega) ⟨fun q s hq hs => by
      obtain rfl : q = 0 := by omega
      rw [show 1024 * 0 + s = s by omega]
      exact hz s (by omega), hz⟩
  exact ⟨b', e, fun r s hr hs => c1 r s (by omega) hs, c3⟩
