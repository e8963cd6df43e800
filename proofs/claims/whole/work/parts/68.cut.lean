/-! Own rows: a piece is cut: uses and reservations afterwards. -/
abbrev CS := (Nat → Int32) × Int32 × (Nat → Int32) × Int32
def cutF (s : CS) (p : Nat) (x : Int32) : CS :=
  (upd s.1 p x, s.2.1 ||| x, upd s.2.2.1 p mI, if s.2.2.1 p = mI then s.2.2.2 else s.2.2.2 &&& ((nI 1 <<< (s.2.2.1 p &&& nI 31)) ^^^ mI))
theorem upd_id {f : Nat → Int32} {k : Nat} {x : Int32} (h : f k = x) : upd f k x = f := by
  funext j
  by_cases e : j = k
  · subst e; rw [pk_us, h]
  · exact pk_un e
theorem e_drop {hp : Nat → Int32} {hh : Int32} {p : Nat} (h : p < 10) : m_H_drop hp hh (nI p) = some (upd hp p mI, if hp p = mI then hh else hh &&& ((nI 1 <<< (hp p &&& nI 31)) ^^^ mI)) := by
  unfold m_H_drop
  rw [e_pheld h]
  simp (disch := omega) only [q_lit, q_m1, q_m1', nI_add, pk_mul, pk_sub, q_sh, q_b1, q_b0, nI_leI, nI_ltI, nI_eq, nI_clamp, q_nle, q_le, q_nlt, q_lt, q_mlt, q_mle, q_ltm, q_lem, q_eqm, q_meq, Nat.not_lt_zero, or_false, false_or, or_true, true_or, and_true, true_and, false_and, and_false, if_true, if_false, ↓reduceIte, Option.bind_some, not_true, not_false_eq_true, bI_0]
  by_cases e : hp p = mI
  · rw [if_pos (by simp [e]), if_pos e, upd_id e]
  · rw [if_neg (by simp [e]), if_neg e]
theorem e_cut {up hp : Nat → Int32} {uu hh x : Int32} {p : Nat} (h : p < 10) : m_S_cutPiece up uu hp hh (nI p) x = some (cutF (up, uu, hp, hh) p x) := by
  unfold m_S_cutPiece m_U_use
  rw [e_drop h]
  simp (disch := omega) only [q_lit, q_m1, q_m1', nI_add, pk_mul, pk_sub, q_sh, q_b1, q_b0, nI_leI, nI_ltI, nI_eq, nI_clamp, q_nle, q_le, q_nlt, q_lt, q_mlt, q_mle, q_ltm, q_lem, q_eqm, q_meq, Nat.not_lt_zero, or_false, false_or, or_true, true_or, and_true, true_and, false_and, and_false, if_true, if_false, ↓reduceIte, Option.bind_some, not_true, not_false_eq_true]
  rfl
theorem U_cut {np no uo p s : Nat} {um : Nat → Nat} {up du db db' : Nat → Int32} {uu : Int32} (hU : I_U np no um uo up uu du db) (hp : p < np) (hum : um p = 0) (hs : s < 2 ^ no) (hs0 : s ≠ 0) (hd : ∀ o, o < no → s.testBit o = true → uo.testBit o = false) (hdb : ∀ o, o < no → db' o = if s.testBit o = true then nI p else db o) :
    I_U np no (fun q => if q = p then s else um q) (uo ||| s) (upd up p (nI s)) (uu ||| nI s) (upd du p (nI 1)) db' := by
  obtain ⟨rfl, u2, u3, u4, u5⟩ := hU
  refine ⟨q_or _ _, Nat.or_lt_two_pow u2 hs, fun q hq => ?_, fun q h1 h2 => ?_, fun o ho => ?_⟩
  · by_cases e : q = p
    · subst e
      refine ⟨?_, ?_, ?_⟩
      · show upd up q (nI s) q = nI (if q = q then s else um q)
        rw [pk_us, if_pos rfl]
      · show (if q = q then s else um q) < _
        rw [if_pos rfl]; exact hs
      · show upd du q (nI 1) q = bI (decide ((if q = q then s else um q) ≠ 0))
        rw [pk_us, if_pos rfl, decide_eq_true hs0]; rfl
    · simp only [if_neg e]
      rw [pk_un e, pk_un e]
      exact u3 q hq
  · simp only [if_neg (show ¬ q = p by omega)]
    exact u4 q h1 h2
  · cases hb : s.testBit o with
    | false =>
      have e0 : db' o = db o := by rw [hdb o ho, hb]; rfl
      rcases u5 o ho with ⟨w1, w2, w3⟩ | ⟨r, w1, w2, w3, w4⟩
      · refine Or.inl ⟨by rw [Nat.testBit_or, w1, hb]; rfl, by rw [e0, w2], fun q hq => ?_⟩
        by_cases e : q = p
        · simp only [if_pos e]; exact hb
        · simp only [if_neg e]; exact w3 q hq
      · refine Or.inr ⟨r, w1, by rw [Nat.testBit_or, w2]; rfl, by rw [e0, w3], fun q hq => ?_⟩
        by_cases e : q = p
        · simp only [if_pos e]
          have hn : ¬ p = r := fun x => by
            have := w4 r (by rw [← x]; omega)
            rw [← x, hum, Nat.zero_testBit] at this
            simp at this
          rw [hb, e]
          exact (decide_eq_false hn).symm
        · simp only [if_neg e]; exact w4 q hq
    | true =>
      refine Or.inr ⟨p, hp, by rw [Nat.testBit_or, hb, Bool.or_true], by rw [hdb o ho, hb]; rfl, fun q hq => ?_⟩
      by_cases e : q = p
      · simp only [if_pos e]; rw [hb, decide_eq_true e]
      · simp only [if_neg e]
        rw [decide_eq_false e]
        have h0 := hd o ho hb
        rcases u5 o ho with ⟨w1, w2, w3⟩ | ⟨r, w1, w2, w3, w4⟩
        · exact w3 q hq
        · rw [h0] at w2; cases w2
theorem q_clr (s k o : Nat) : (s ^^^ (s &&& 2 ^ k)).testBit o = (s.testBit o && !decide (k = o)) := by
  rw [Nat.testBit_xor, Nat.testBit_and, Nat.testBit_two_pow]
  cases s.testBit o <;> simp
theorem H_drop {np no td ho p : Nat} {hp hl rf rt : Nat → Int32} {hh : Int32} (hno : no ≤ 10) (hnp : np ≤ 10) (hH : I_H np no td ho hp hl hh rf rt) (h : p < np) :
    ∃ ho', I_H np no td ho' (upd hp p mI) hl (if hp p = mI then hh else hh &&& ((nI 1 <<< (hp p &&& nI 31)) ^^^ mI)) (upd rf p mI) rt ∧ ∀ o, o < no → ho'.testBit o = (ho.testBit o && !decide (hp p = nI o)) := by
  obtain ⟨rfl, k2, k3, k4, k5, k6, k7⟩ := hH
  have n1 := q_p2' hno
  have A : ∀ q, q < np → upd hp p mI q = if rt q < nI td then mI else upd rf p mI q := fun q hq => by
    by_cases e : q = p
    · subst e; rw [pk_us, pk_us]; split <;> rfl
    · rw [pk_un e, pk_un e]; exact k3 q hq
  have B : ∀ q, np ≤ q → q < 10 → upd hp p mI q = mI := fun q h1 h2 => by
    rw [pk_un (by omega)]; exact k4 q h1 h2
  have C : ∀ q, q < 10 → upd hp p mI q = mI ∨ ∃ o, o < no ∧ upd hp p mI q = nI o ∧ rt q = hl q := fun q hq => by
    by_cases e : q = p
    · subst e; exact Or.inl pk_us
    · rw [pk_un e]; exact k5 q hq
  have D : ∀ a b, a < 10 → b < 10 → a ≠ b → upd hp p mI a = upd hp p mI b → upd hp p mI a = mI := fun a b ha hb hab x => by
    by_cases e : a = p
    · subst e; exact pk_us
    · by_cases e2 : b = p
      · subst e2; exact x.trans pk_us
      · rw [pk_un e] at x ⊢
        rw [pk_un e2] at x
        exact k6 a b ha hb hab x
  rcases k5 p (by omega) with y | ⟨o0, y1, y2, _⟩
  · refine ⟨ho, ⟨by rw [if_pos y], k2, A, B, C, D, fun o h1 => ?_⟩, fun o h1 => ?_⟩
    · rw [upd_id y]; exact k7 o h1
    · rw [y, decide_eq_false (show ¬ mI = nI o by rw [q_meq (by omega)]; exact id)]; simp
  · have hne : ¬ hp p = mI := by rw [y2, q_eqm (by omega)]; exact id
    have hbit : ∀ o, o < no → decide (hp p = nI o) = decide (o0 = o) := fun o h1 => by rw [y2]; exact decide_eq_decide.mpr (nI_eq (by omega) (by omega))
    refine ⟨ho ^^^ (ho &&& 2 ^ o0), ⟨?_, Nat.xor_lt_two_pow k2 (Nat.lt_of_le_of_lt Nat.and_le_left k2), A, B, C, D, fun o h1 => ?_⟩, fun o h1 => ?_⟩
    · rw [if_neg hne, y2, q_sh (by omega), q_not (by omega)]
    · rw [q_clr]
      by_cases e : o0 = o
      · subst e
        simp only [decide_true, Bool.not_true, Bool.and_false, Bool.false_eq_true, false_iff]
        rintro ⟨q, q1, q2⟩
        by_cases e2 : q = p
        · subst e2; rw [pk_us, q_meq (by omega)] at q2; exact q2
        · rw [pk_un e2] at q2
          have := k6 q p (by omega) (by omega) e2 (q2.trans y2.symm)
          rw [q2, q_eqm (by omega)] at this
          exact this
      · have e' : decide (o0 = o) = false := decide_eq_false e
        rw [e', Bool.not_false, Bool.and_true, k7 o h1]
        constructor
        · rintro ⟨q, q1, q2⟩
          refine ⟨q, q1, ?_⟩
          have e2 : ¬ q = p := fun x => by
            subst x
            rw [y2, nI_eq (by omega) (by omega)] at q2
            exact e q2
          rw [pk_un e2]; exact q2
        · rintro ⟨q, q1, q2⟩
          refine ⟨q, q1, ?_⟩
          have e2 : ¬ q = p := fun x => by
            subst x
            rw [pk_us, q_meq (by omega)] at q2
            exact q2
          rw [pk_un e2] at q2; exact q2
    · rw [q_clr, hbit o h1]
