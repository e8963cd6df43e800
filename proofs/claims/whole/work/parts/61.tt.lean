/-! Own rows: the greatest gain of the last r pieces, S: the orders that are gone. -/
def TM (h : Nat → Nat) (f : (Nat → Bool) → Nat) (S : Nat → Bool) : Nat → Nat
  | 0 => f S
  | k + 1 => if 0 < h k ∧ S k = false then max (TM h f S k) (f (st S k) + h k) else TM h f S k
def TT (g : Nat → Nat → Nat) (no np : Nat) : Nat → (Nat → Bool) → Nat
  | 0, _ => 0
  | r + 1, S => TM (g (np - (r + 1))) (TT g no np r) S no
theorem TM_le (h : Nat → Nat) (f : (Nat → Bool) → Nat) (S : Nat → Bool) (k : Nat) : f S ≤ TM h f S k := by
  induction k with
  | zero => exact Nat.le_refl _
  | succ k ih =>
    unfold TM
    split
    · omega
    · exact ih
theorem TM_opt (h : Nat → Nat) (f : (Nat → Bool) → Nat) (S : Nat → Bool) (k : Nat) : TM h f S k = f S ∨ ∃ o, o < k ∧ 0 < h o ∧ S o = false ∧ TM h f S k = f (st S o) + h o := by
  induction k with
  | zero => exact Or.inl rfl
  | succ k ih =>
    unfold TM
    split
    · rename_i hc
      by_cases hm : TM h f S k ≤ f (st S k) + h k
      · exact Or.inr ⟨k, by omega, hc.1, hc.2, by omega⟩
      · rcases ih with e | ⟨o, h1, h2, h3, h4⟩
        · exact Or.inl (by omega)
        · exact Or.inr ⟨o, by omega, h2, h3, by omega⟩
    · rcases ih with e | ⟨o, h1, h2, h3, h4⟩
      · exact Or.inl e
      · exact Or.inr ⟨o, by omega, h2, h3, h4⟩
theorem TM_congr (h h' : Nat → Nat) (f f' : (Nat → Bool) → Nat) (S S' : Nat → Bool) (k : Nat) (h0 : f S = f' S') (h1 : ∀ o, o < k → (0 < h o ∧ S o = false ↔ 0 < h' o ∧ S' o = false)) (h2 : ∀ o, o < k → 0 < h o → S o = false → f (st S o) + h o = f' (st S' o) + h' o) : TM h f S k = TM h' f' S' k := by
  induction k with
  | zero => exact h0
  | succ k ih =>
    have e := ih (fun o ho => h1 o (by omega)) (fun o ho => h2 o (by omega))
    unfold TM
    by_cases hc : 0 < h k ∧ S k = false
    · rw [if_pos hc, if_pos ((h1 k (by omega)).mp hc), e, h2 k (by omega) hc.1 hc.2]
    · rw [if_neg hc, if_neg (fun q => hc ((h1 k (by omega)).mpr q)), e]
theorem TT_congr (g : Nat → Nat → Nat) (no np r : Nat) : ∀ S S' : Nat → Bool, (∀ k, k < no → S k = S' k) → TT g no np r S = TT g no np r S' := by
  induction r with
  | zero => intros; rfl
  | succ r ih =>
    intro S S' h
    refine TM_congr _ _ _ _ _ _ _ (ih S S' h) (fun o ho => by rw [h o ho]) (fun o ho _ _ => ?_)
    rw [ih (st S o) (st S' o) (fun k hk => by unfold st; rw [h k hk])]
theorem TT_ex (g : Nat → Nat → Nat) (ex : Nat → Bool) (no np r : Nat) : ∀ S : Nat → Bool, TT (fun p o => if ex o = true then 0 else g p o) no np r S = TT g no np r (fun k => S k || ex k) := by
  induction r with
  | zero => intros; rfl
  | succ r ih =>
    intro S
    refine TM_congr _ _ _ _ _ _ _ (ih S) (fun o ho => ?_) (fun o ho h1 _ => ?_)
    · cases hx : ex o <;> simp [hx]
    · cases hx : ex o with
      | true => simp [hx] at h1
      | false =>
        rw [ih (st S o)]
        have : (fun k => st S o k || ex k) = st (fun k => S k || ex k) o := by
          funext k
          unfold st
          by_cases e : k = o <;> simp [e]
        rw [this]
        simp [hx]
theorem TT_bd (g : Nat → Nat → Nat) (B no np : Nat) (hg : ∀ p o, p < np → o < no → g p o ≤ B) (r : Nat) : r ≤ np → ∀ S, TT g no np r S ≤ r * B := by
  induction r with
  | zero => intro _ S; exact Nat.zero_le _
  | succ r ih =>
    intro hr S
    show TM (g (np - (r + 1))) (TT g no np r) S no ≤ (r + 1) * B
    have e : (r + 1) * B = r * B + B := Nat.succ_mul r B
    rcases TM_opt (g (np - (r + 1))) (TT g no np r) S no with h | ⟨o, h1, _, _, h⟩
    · have := ih (by omega) S; omega
    · have := ih (by omega) (st S o); have := hg (np - (r + 1)) o (by omega) h1; omega
theorem TM_bd (g : Nat → Nat → Nat) (B no np : Nat) (hg : ∀ p o, p < np → o < no → g p o ≤ B) (r k : Nat) (hr : r + 1 ≤ np) (hk : k ≤ no) (S : Nat → Bool) : TM (g (np - (r + 1))) (TT g no np r) S k ≤ (r + 1) * B := by
  have e : (r + 1) * B = r * B + B := Nat.succ_mul r B
  rcases TM_opt (g (np - (r + 1))) (TT g no np r) S k with h | ⟨o, h1, _, _, h⟩
  · have := TT_bd g B no np hg r (by omega) S; omega
  · have := TT_bd g B no np hg r (by omega) (st S o); have := hg (np - (r + 1)) o (by omega) (by omega); omega
