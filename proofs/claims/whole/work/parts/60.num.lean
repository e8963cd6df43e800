/-! Own rows: numbers, bits, loops. -/
theorem q_lit (n : Nat) : (OfNat.ofNat n : Int32) = nI n := rfl
theorem q_litL (n : Nat) : (OfNat.ofNat n : Int64) = lN n := rfl
def mI : Int32 := -1
theorem q_m1 : -(nI 1) = mI := rfl
theorem q_m1' : (-1 : Int32) = mI := rfl
theorem mI_toInt : mI.toInt = -1 := by decide +kernel
theorem q_mlt {k : Nat} (h : k < 2 ^ 31) : (mI < nI k) = True := eq_true (by rw [Int32.lt_iff_toInt_lt, mI_toInt, nI_toInt h]; omega)
theorem q_mle {k : Nat} (h : k < 2 ^ 31) : (mI ≤ nI k) = True := eq_true (by rw [Int32.le_iff_toInt_le, mI_toInt, nI_toInt h]; omega)
theorem q_ltm {k : Nat} (h : k < 2 ^ 31) : (nI k < mI) = False := eq_false (by rw [Int32.lt_iff_toInt_lt, mI_toInt, nI_toInt h]; omega)
theorem q_lem {k : Nat} (h : k < 2 ^ 31) : (nI k ≤ mI) = False := eq_false (by rw [Int32.le_iff_toInt_le, mI_toInt, nI_toInt h]; omega)
theorem q_eqm {k : Nat} (h : k < 2 ^ 31) : (nI k = mI) = False := eq_false (fun q => by have e := congrArg Int32.toInt q; rw [mI_toInt, nI_toInt h] at e; omega)
theorem q_meq {k : Nat} (h : k < 2 ^ 31) : (mI = nI k) = False := eq_false (fun q => by have e := congrArg Int32.toInt q; rw [mI_toInt, nI_toInt h] at e; omega)
theorem q_am (x : Int32) : x + mI = x - nI 1 := by rw [Int32.sub_eq_add_neg]; rfl
theorem q_pr {k : Nat} (h : 0 < k) : nI k - nI 1 = nI (k - 1) := pk_sub h
theorem q_p0 : nI 0 - nI 1 = mI := by decide +kernel
theorem q_nle {a b : Nat} (h : b < a) : (a ≤ b) = False := eq_false (by omega)
theorem q_le {a b : Nat} (h : a ≤ b) : (a ≤ b) = True := eq_true h
theorem q_nlt {a b : Nat} (h : b ≤ a) : (a < b) = False := eq_false (by omega)
theorem q_lt {a b : Nat} (h : a < b) : (a < b) = True := eq_true h
theorem q_ne {a b : Nat} (h : a ≠ b) : (a = b) = False := eq_false h
theorem q_sm : ∀ k, k < 32 → ((nI k &&& nI 31).toBitVec.smod 32).toNat = k := by decide +kernel
theorem q_sh0 : ∀ k, k < 31 → nI 1 <<< (nI k &&& nI 31) = nI (2 ^ k) := by decide +kernel
theorem q_sh {k : Nat} (h : k < 31) : nI 1 <<< (nI k &&& nI 31) = nI (2 ^ k) := q_sh0 k h
theorem q_and (a b : Nat) : nI a &&& nI b = nI (a &&& b) := by
  apply Int32.toBitVec_inj.1
  show BitVec.ofNat 32 a &&& BitVec.ofNat 32 b = BitVec.ofNat 32 (a &&& b)
  apply BitVec.eq_of_getLsbD_eq
  intro i hi
  simp [hi]
theorem q_or (a b : Nat) : nI a ||| nI b = nI (a ||| b) := by
  apply Int32.toBitVec_inj.1
  show BitVec.ofNat 32 a ||| BitVec.ofNat 32 b = BitVec.ofNat 32 (a ||| b)
  apply BitVec.eq_of_getLsbD_eq
  intro i hi
  simp [hi]
theorem q_xor (a b : Nat) : nI a ^^^ nI b = nI (a ^^^ b) := by
  apply Int32.toBitVec_inj.1
  show BitVec.ofNat 32 a ^^^ BitVec.ofNat 32 b = BitVec.ofNat 32 (a ^^^ b)
  apply BitVec.eq_of_getLsbD_eq
  intro i hi
  simp [hi]
theorem q_mI : mI = nI (2 ^ 32 - 1) := by decide +kernel
theorem q_not {s t : Nat} (hs : s < 2 ^ 31) : nI s &&& (nI t ^^^ mI) = nI (s ^^^ (s &&& t)) := by
  rw [q_mI, q_xor, q_and]
  refine congrArg nI (Nat.eq_of_testBit_eq (fun i => ?_))
  rw [Nat.testBit_and, Nat.testBit_xor, Nat.testBit_two_pow_sub_one, Nat.testBit_xor, Nat.testBit_and]
  by_cases hi : i < 32
  · simp only [hi, decide_true]
    cases s.testBit i <;> cases t.testBit i <;> rfl
  · have : s.testBit i = false := Nat.testBit_lt_two_pow (Nat.lt_of_lt_of_le hs (Nat.pow_le_pow_right (by decide) (by omega)))
    rw [this]
    rfl
theorem q_bitn {s k : Nat} (hs : s < 2 ^ 31) (hk : k < 32) : (nI s >>> (nI k &&& nI 31)) &&& nI 1 = nI (s / 2 ^ k % 2) := by
  rw [pk_shrN hs _ k (q_sm k hk)]
  have h2 : s / 2 ^ k ≤ s := Nat.div_le_self _ _
  exact pk_andN (by omega) (m := nI 1) 1 (by decide +kernel)
theorem q_b1 {s k : Nat} (hs : s < 2 ^ 31) (hk : k < 32) : ((nI s >>> (nI k &&& nI 31)) &&& nI 1 = nI 1) = (s.testBit k = true) := by
  rw [q_bitn hs hk, Nat.testBit_eq_decide_div_mod_eq]
  refine propext ⟨fun h => ?_, fun h => ?_⟩
  · exact decide_eq_true ((nI_eq (by omega) (by omega)).mp h)
  · rw [of_decide_eq_true h]
theorem q_b0 {s k : Nat} (hs : s < 2 ^ 31) (hk : k < 32) : ((nI s >>> (nI k &&& nI 31)) &&& nI 1 = nI 0) = (s.testBit k = false) := by
  rw [q_bitn hs hk, Nat.testBit_eq_decide_div_mod_eq]
  refine propext ⟨fun h => ?_, fun h => ?_⟩
  · have := (nI_eq (by omega) (by omega)).mp h
    exact decide_eq_false (by omega)
  · have := of_decide_eq_false h
    have h3 : s / 2 ^ k % 2 = 0 := by omega
    rw [h3]
theorem q_mk0 {s k : Nat} (hs : s < 2 ^ 31) : (nI s &&& nI (2 ^ k) = nI 0) = (s.testBit k = false) := by
  rw [q_and]
  have h1 : s &&& 2 ^ k ≤ s := Nat.and_le_left
  rw [nI_eq (by omega) (by omega)]
  refine propext ⟨fun h => ?_, fun h => ?_⟩
  · have := congrArg (fun x => x.testBit k) h
    simpa [Nat.testBit_and, Nat.testBit_two_pow_self] using this
  · refine Nat.eq_of_testBit_eq (fun i => ?_)
    rw [Nat.testBit_and, Nat.testBit_two_pow, Nat.zero_testBit]
    by_cases e : k = i
    · rw [← e, h]; rfl
    · simp [e]
theorem q_orp : ∀ k, k < 10 → ∀ s, s < 2048 → s.testBit k = false → s ||| 2 ^ k = s + 2 ^ k := by decide +kernel
theorem q_sbp : ∀ k, k < 10 → ∀ s, s < 1024 → s.testBit k = true → s - 2 ^ k = s ^^^ 2 ^ k := by decide +kernel
theorem q_p2 {k : Nat} (h : k < 10) : 2 ^ k ≤ 512 := Nat.pow_le_pow_right (n := 2) (by decide) (show k ≤ 9 by omega)
theorem q_p2' {k : Nat} (h : k ≤ 10) : 2 ^ k ≤ 1024 := Nat.pow_le_pow_right (n := 2) (by decide) h
theorem q_p0' (k : Nat) : 0 < 2 ^ k := Nat.two_pow_pos k
theorem q_orl {s k : Nat} (hs : s < 1024) (h : k < 10) : s ||| 2 ^ k < 1024 := Nat.or_lt_two_pow (n := 10) hs (by have := q_p2 h; omega)
theorem q_gap {o s t : Nat} (ho : o < 10) (hs : s < 1024) (h1 : s.testBit o = true) (h2 : s < t) (h3 : t < (s + 1) ||| 2 ^ o) : t.testBit o = false := by
  cases h4 : (s + 1).testBit o with
  | true =>
    have : (s + 1) ||| 2 ^ o = s + 1 := by
      refine Nat.eq_of_testBit_eq (fun i => ?_)
      rw [Nat.testBit_or, Nat.testBit_two_pow]
      by_cases e : o = i
      · rw [← e, h4]; rfl
      · simp [e]
    omega
  | false =>
    rw [q_orp o ho (s + 1) (by omega) h4] at h3
    rw [Nat.testBit_eq_decide_div_mod_eq] at h1 h4 ⊢
    have h1 := of_decide_eq_true h1
    have h4 := of_decide_eq_false h4
    refine decide_eq_false ?_
    have ho' : o = 0 ∨ o = 1 ∨ o = 2 ∨ o = 3 ∨ o = 4 ∨ o = 5 ∨ o = 6 ∨ o = 7 ∨ o = 8 ∨ o = 9 := by omega
    rcases ho' with e | e | e | e | e | e | e | e | e | e <;> subst e <;> simp only [Nat.reducePow] at h1 h3 h4 ⊢ <;> omega
def st (S : Nat → Bool) (k : Nat) : Nat → Bool := fun j => if j = k then true else S j
theorem st_or (s k : Nat) : st s.testBit k = (s ||| 2 ^ k).testBit := by
  funext j
  rw [Nat.testBit_or, Nat.testBit_two_pow]
  unfold st
  by_cases e : j = k
  · subst e; simp
  · have e' : ¬ k = j := fun q => e q.symm
    simp [e, e']
theorem st_sub {s k : Nat} (hs : s < 1024) (hk : k < 10) (h : s.testBit k = true) : st (fun j => !s.testBit j) k = fun j => !(s - 2 ^ k).testBit j := by
  funext j
  rw [q_sbp k hk s hs h, Nat.testBit_xor, Nat.testBit_two_pow]
  unfold st
  by_cases e : j = k
  · subst e; simp [h]
  · have e' : ¬ k = j := fun q => e q.symm
    simp [e, e']
def sm (s : Nat) (f : Nat → Nat) : Nat → Nat
  | 0 => 0
  | k + 1 => sm s f k + (if s.testBit k = true then f k else 0)
theorem q_bc : ∀ s, s < 1024 → m_J_bitCount (nI s) = some (nI (sm s (fun _ => 1) 10)) := by decide +kernel
/-! loops -/
theorem lpU {σ R : Type} (Lp : Nat → Nat → σ → R) (X : σ → R) (I : Nat → σ → Prop) (e : Nat) (hx : ∀ n s, I e s → Lp (n + 1) e s = X s)
    (hs : ∀ n i s, i < e → I i s → ∃ s', Lp (n + 1) i s = Lp n (i + 1) s' ∧ I (i + 1) s') : ∀ n i s, i ≤ e → e - i < n → I i s → ∃ s', Lp n i s = X s' ∧ I e s' := by
  intro n
  induction n with
  | zero => intro i s h1 h2 _; omega
  | succ n ih =>
    intro i s h1 h2 h
    by_cases he : i = e
    · subst he; exact ⟨s, hx n s h, h⟩
    · obtain ⟨s', e1, h'⟩ := hs n i s (by omega) h
      rw [e1]
      exact ih (i + 1) s' (by omega) (by omega) h'
theorem lpG {σ R : Type} (Lp : Nat → Nat → σ → R) (X : Nat → σ → R) (I : Nat → σ → Prop) (e : Nat) (hx : ∀ n i s, e ≤ i → I i s → Lp (n + 1) i s = X i s)
    (hs : ∀ n i s, i < e → I i s → ∃ i' s', i < i' ∧ Lp (n + 1) i s = Lp n i' s' ∧ I i' s') : ∀ n i s, e - i < n → I i s → ∃ i' s', e ≤ i' ∧ Lp n i s = X i' s' ∧ I i' s' := by
  intro n
  induction n with
  | zero => intro i s h2 _; omega
  | succ n ih =>
    intro i s h2 h
    by_cases he : e ≤ i
    · exact ⟨i, s, he, hx n i s he h, h⟩
    · obtain ⟨i', s', h3, e1, h'⟩ := hs n i s (by omega) h
      rw [e1]
      exact ih i' s' (by omega) h'
theorem lpD {σ R : Type} (Lp : Nat → Nat → σ → R) (X : σ → R) (I : Nat → σ → Prop) (hx : ∀ n s, I 0 s → Lp (n + 1) 0 s = X s)
    (hs : ∀ n i s, I (i + 1) s → ∃ s', Lp (n + 1) (i + 1) s = Lp n i s' ∧ I i s') : ∀ i n s, i < n → I i s → ∃ s', Lp n i s = X s' ∧ I 0 s' := by
  intro i
  induction i with
  | zero =>
    intro n s h2 h
    obtain ⟨n, rfl⟩ : ∃ m, n = m + 1 := ⟨n - 1, by omega⟩
    exact ⟨s, hx n s h, h⟩
  | succ i ih =>
    intro n s h2 h
    obtain ⟨n, rfl⟩ : ∃ m, n = m + 1 := ⟨n - 1, by omega⟩
    obtain ⟨s', e1, h'⟩ := hs n i s h
    rw [e1]
    exact ih n s' (by omega) h'
