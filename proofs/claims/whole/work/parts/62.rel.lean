/-! Own rows: what the class's cells and the reference's have to do with each other; fitting, worths. -/
def bI (b : Bool) : Int32 := if b = true then nI 1 else nI 0
theorem bI_0 (b : Bool) : (bI b = nI 0) = (b = false) := by cases b <;> decide +kernel
theorem bI_1 (b : Bool) : (bI b = nI 1) = (b = true) := by cases b <;> decide +kernel
theorem bI_t : bI true = nI 1 := rfl
theorem bI_f : bI false = nI 0 := rfl
theorem bI_n (b : Bool) : bI b &&& nI 1 = bI b := by cases b <;> decide +kernel
def I_B (n : Nat) (c dc : Int32) (t w l g d : Nat → Int32) : Prop :=
  n ≤ 10 ∧ c = nI n ∧ dc = nI n ∧ ∀ i, i < n → d (4 * i) = t i ∧ d (4 * i + 1) = w i ∧ d (4 * i + 2) = l i ∧ d (4 * i + 3) = g i ∧ ∃ k, k ≤ 1000 ∧ l i = nI k
def I_U (np no : Nat) (um : Nat → Nat) (uo : Nat) (up : Nat → Int32) (uu : Int32) (du db : Nat → Int32) : Prop :=
  uu = nI uo ∧ uo < 2 ^ no ∧ (∀ p, p < 10 → up p = nI (um p) ∧ um p < 2 ^ no ∧ du p = bI (decide (um p ≠ 0))) ∧ (∀ p, np ≤ p → p < 10 → um p = 0) ∧
  ∀ o, o < no → (uo.testBit o = false ∧ db o = mI ∧ ∀ q, q < 10 → (um q).testBit o = false) ∨ ∃ p, p < np ∧ uo.testBit o = true ∧ db o = nI p ∧ ∀ q, q < 10 → (um q).testBit o = decide (q = p)
def I_H (np no td ho : Nat) (hp hl : Nat → Int32) (hh : Int32) (rf rt : Nat → Int32) : Prop :=
  hh = nI ho ∧ ho < 2 ^ no ∧ (∀ p, p < np → hp p = if rt p < nI td then mI else rf p) ∧ (∀ p, np ≤ p → p < 10 → hp p = mI) ∧
  (∀ p, p < 10 → hp p = mI ∨ ∃ o, o < no ∧ hp p = nI o ∧ rt p = hl p) ∧ (∀ p q, p < 10 → q < 10 → p ≠ q → hp p = hp q → hp p = mI) ∧
  ∀ o, o < no → (ho.testBit o = true ↔ ∃ p, p < np ∧ hp p = nI o)
def I_C (np td : Nat) (cf : Nat → Nat) (cm dcm : Nat → Int32) : Prop :=
  (∀ i, i < np → cm i = nI (cf i) ∧ dcm i = nI (cf i) ∧ cf i ≤ td) ∧ ∀ i j, i ≤ j → j < np → cf i ≤ cf j
def I_W (wf : Nat → Nat) (tl dw : Nat → Int32) : Prop := ∀ k, k < 100 → tl k = nI (wf k) ∧ dw k = nI (wf k) ∧ wf k ≤ 1000000
def I_M (np no : Nat) (mu ran su dsu : Int32) (pd od dpd dod : Nat → Int32) : Prop :=
  su = dsu ∧ ((mu = nI 0 ∧ ran = nI 0) ∨ (mu = nI 1 ∧ ran = nI 1 ∧ (∀ k, k < np → pd k = dpd k) ∧ ∀ k, k < no → od k = dod k))
def fitB (t w l g t' w' l' g' : Nat → Int32) (p o : Nat) : Bool := decide (g p = g' o ∧ t p = t' o ∧ ¬ w p < w' o ∧ ¬ l p < l' o)
theorem e_suits {t w l g t' w' l' g' : Nat → Int32} {p o : Nat} (hp : p < 10) (ho : o < 10) : m_B_suits t w l g t' w' l' g' (nI p) (nI o) = some (bI (fitB t w l g t' w' l' g' p o)) := by
  unfold m_B_suits fitB
  simp (disch := omega) only [q_lit, q_m1, q_m1', nI_add, pk_mul, pk_sub, q_sh, q_b1, q_b0, nI_leI, nI_ltI, nI_eq, nI_clamp, q_nle, q_le, q_nlt, q_lt, q_mlt, q_mle, q_ltm, q_lem, q_eqm, q_meq, Nat.not_lt_zero, or_false, false_or, or_true, true_or, and_true, true_and, false_and, and_false, if_true, if_false, ↓reduceIte, Option.bind_some, not_true, not_false_eq_true]
  by_cases h1 : g p = g' o <;> by_cases h2 : t p = t' o <;> by_cases h3 : w p < w' o <;> by_cases h4 : l p < l' o <;> simp [h1, h2, h3, h4, bI]
theorem e_isFit {np no : Nat} {c dc c' dc' : Int32} {t w l g d t' w' l' g' d' : Nat → Int32} {p o : Nat} (hB : I_B np c dc t w l g d) (hB' : I_B no c' dc' t' w' l' g' d') (hp : p < np) (ho : o < no) : m_D_isFit d d' (nI p) (nI o) = some (bI (fitB t w l g t' w' l' g' p o)) := by
  obtain ⟨hn, _, _, hA⟩ := hB
  obtain ⟨hn', _, _, hA'⟩ := hB'
  obtain ⟨a1, a2, a3, a4, _⟩ := hA p hp
  obtain ⟨b1, b2, b3, b4, _⟩ := hA' o ho
  unfold m_D_isFit fitB
  simp (disch := omega) only [q_lit, q_m1, q_m1', nI_add, pk_mul, pk_sub, q_sh, q_b1, q_b0, nI_leI, nI_ltI, nI_eq, nI_clamp, q_nle, q_le, q_nlt, q_lt, q_mlt, q_mle, q_ltm, q_lem, q_eqm, q_meq, Nat.not_lt_zero, or_false, false_or, or_true, true_or, and_true, true_and, false_and, and_false, if_true, if_false, ↓reduceIte, Option.bind_some, not_true, not_false_eq_true, a1, a2, a3, a4, b1, b2, b3, b4]
  by_cases h1 : g p = g' o <;> by_cases h2 : t p = t' o <;> by_cases h3 : w p < w' o <;> by_cases h4 : l p < l' o <;> simp [h1, h2, h3, h4, bI]
def sdN (pw pl ow ol : Nat → Int32) (p o : Nat) : Nat := (if pw p = ow o then 0 else 1) + (if pl p = ol o then 0 else 1)
def netI (pw pl ow ol cm tl : Nat → Int32) (td ct ag : Int32) (p o : Nat) : Int32 :=
  if nI 0 < tl (10 * p + o) - (ct * nI (sdN pw pl ow ol p o) + ag * (td - cm p)) then tl (10 * p + o) - (ct * nI (sdN pw pl ow ol p o) + ag * (td - cm p)) else nI 0
theorem e_sides {pw pl ow ol : Nat → Int32} {p o : Nat} (hp : p < 10) (ho : o < 10) : m_B_sidesToCut pw pl ow ol (nI p) (nI o) = some (nI (sdN pw pl ow ol p o)) := by
  unfold m_B_sidesToCut sdN
  simp (disch := omega) only [q_lit, q_m1, q_m1', nI_add, pk_mul, pk_sub, q_sh, q_b1, q_b0, nI_leI, nI_ltI, nI_eq, nI_clamp, q_nle, q_le, q_nlt, q_lt, q_mlt, q_mle, q_ltm, q_lem, q_eqm, q_meq, Nat.not_lt_zero, or_false, false_or, or_true, true_or, and_true, true_and, false_and, and_false, if_true, if_false, ↓reduceIte, Option.bind_some, not_true, not_false_eq_true]
  by_cases h1 : pw p = ow o <;> by_cases h2 : pl p = ol o <;> simp [h1, h2]
theorem e_worth {pw pl ow ol cm tl : Nat → Int32} {td ct ag : Int32} {p o : Nat} (hp : p < 10) (ho : o < 10) : m_S_worthToday pw pl ow ol cm tl td ct ag (nI p) (nI o) = some (netI pw pl ow ol cm tl td ct ag p o) := by
  unfold m_S_worthToday netI
  rw [e_sides hp ho]
  unfold m_S_ageOf m_S_pairIndex
  have e : p * 10 + o = 10 * p + o := by omega
  simp (disch := omega) only [q_lit, q_m1, q_m1', nI_add, pk_mul, pk_sub, q_sh, q_b1, q_b0, nI_leI, nI_ltI, nI_eq, nI_clamp, q_nle, q_le, q_nlt, q_lt, q_mlt, q_mle, q_ltm, q_lem, q_eqm, q_meq, Nat.not_lt_zero, or_false, false_or, or_true, true_or, and_true, true_and, false_and, and_false, if_true, if_false, ↓reduceIte, Option.bind_some, not_true, not_false_eq_true, e]
theorem q_r1 (a b c : Int32) : a - b = a - (c * nI 0 + b) := by
  have h : c * nI 0 = 0 := Int32.mul_zero
  rw [h, Int32.zero_add]
theorem q_r2 (a b c : Int32) : a - b - c = a - (c * nI 1 + b) := by
  have h : c * nI 1 = c := Int32.mul_one c
  rw [h]
  grind
theorem q_r3 (a b c : Int32) : a - b - c - c = a - (c * nI 2 + b) := by
  have h : c * nI 2 = c + c := by
    show c * 2 = c + c
    grind
  rw [h]
  grind
theorem q_mx (v : Int32) : (if v ≤ nI 0 then some (nI 0) else some v) = some (if nI 0 < v then v else nI 0) := by
  by_cases h : v ≤ nI 0
  · rw [if_pos h, if_neg (Int32.not_lt.mpr h)]
  · rw [if_neg h, if_pos (Int32.not_le.mp h)]
theorem e_netOf {np no : Nat} {c dc c' dc' : Int32} {t w l g d t' w' l' g' d' cm dcm tl dw : Nat → Int32} {td ct ag : Int32} {p o : Nat} (hB : I_B np c dc t w l g d) (hB' : I_B no c' dc' t' w' l' g' d') (hp : p < np) (ho : o < no) (hc : dcm p = cm p) (hw : dw (10 * p + o) = tl (10 * p + o)) : m_D_netOf td ct ag d d' dcm dw (nI p) (nI o) = some (netI w l w' l' cm tl td ct ag p o) := by
  obtain ⟨hn, _, _, hA⟩ := hB
  obtain ⟨hn', _, _, hA'⟩ := hB'
  obtain ⟨a1, a2, a3, a4, _⟩ := hA p hp
  obtain ⟨b1, b2, b3, b4, _⟩ := hA' o ho
  unfold m_D_netOf netI sdN
  simp (disch := omega) only [q_lit, q_m1, q_m1', nI_add, pk_mul, pk_sub, q_sh, q_b1, q_b0, nI_leI, nI_ltI, nI_eq, nI_clamp, q_nle, q_le, q_nlt, q_lt, q_mlt, q_mle, q_ltm, q_lem, q_eqm, q_meq, Nat.not_lt_zero, or_false, false_or, or_true, true_or, and_true, true_and, false_and, and_false, if_true, if_false, ↓reduceIte, Option.bind_some, not_true, not_false_eq_true, a2, a3, b2, b3, hc, hw, q_mx]
  by_cases h1 : w p = w' o <;> by_cases h2 : l p = l' o <;> simp only [h1, h2, if_true, if_false, ↓reduceIte, ← q_r3, ← q_r2, ← q_r1, Nat.reduceAdd]
theorem e_netN {pw pl ow ol cm tl : Nat → Int32} {td ct ag : Nat} {p o c w : Nat} (hw : tl (10 * p + o) = nI w) (hw2 : w ≤ 1000000) (hc : cm p = nI c) (hc2 : c ≤ td) (h1 : td ≤ 9999) (h2 : ct ≤ 1000) (h3 : ag ≤ 1000) : netI pw pl ow ol cm tl (nI td) (nI ct) (nI ag) p o = nI (w - (ct * sdN pw pl ow ol p o + ag * (td - c))) := by
  have b1 : ag * (td - c) ≤ 1000 * 9999 := Nat.mul_le_mul h3 (by omega)
  have b2 : sdN pw pl ow ol p o ≤ 2 := by unfold sdN; split <;> split <;> omega
  have b3 : ct * sdN pw pl ow ol p o ≤ 1000 * 2 := Nat.mul_le_mul h2 b2
  unfold netI
  rw [hw, hc, pk_sub hc2, pk_mul, pk_mul, nI_add]
  have bF : ct * sdN pw pl ow ol p o + ag * (td - c) < 2 ^ 30 := by omega
  generalize ct * sdN pw pl ow ol p o + ag * (td - c) = F at bF ⊢
  by_cases h : F < w
  · rw [pk_sub (by omega), if_pos (nI_lt (by omega) (by omega))]
  · by_cases h' : F = w
    · rw [pk_sub (by omega), if_neg (nI_nlt (by omega) (by omega))]
      exact congrArg nI (by omega)
    · have hlt : nI w - nI F < nI 0 := pk_sneg bF (by omega)
      rw [if_neg (fun q => Int32.lt_irrefl (Int32.lt_trans q hlt))]
      exact congrArg nI (by omega)
