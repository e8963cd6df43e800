/-! Own rows: every call keeps the picture; so the model of the law goes through. -/
def Inv (np no td ct ag sl : Nat) (um : Nat → Nat) (uo ho : Nat) (cf wf : Nat → Nat) (t w l g t' w' l' g' cm tl up : Nat → Int32) (uu : Int32) (hp hl : Nat → Int32) (hh : Int32) (bst pd od : Nat → Int32) (su mu : Int32) (d d' dcm dw du db rf rt : Nat → Int32) (ran dsu : Int32) (dpd dod : Nat → Int32) : Prop :=
  I_B np (nI np) (nI np) t w l g d ∧ I_B no (nI no) (nI no) t' w' l' g' d' ∧ I_U np no um uo up uu du db ∧ I_H np no td ho hp hl hh rf rt ∧ I_C np td cf cm dcm ∧ I_W wf tl dw ∧ I_M np no mu ran su dsu pd od dpd dod ∧ td ≤ 9999 ∧ ct ≤ 1000 ∧ ag ≤ 1000 ∧ sl ≤ 9999 ∧ ∀ s, s < 1024 → bst s = nI 0
theorem law_ok (N L : Nat) (xs : Nat → Int32) (hN : 10001 ≤ N) : ∀ (n i : Nat) (np no td ct ag sl : Nat) (um : Nat → Nat) (uo ho : Nat) (cf wf : Nat → Nat) (t w l g t' w' l' g' cm tl up : Nat → Int32) (uu : Int32) (hp hl : Nat → Int32) (hh : Int32) (gn bst ch pd od : Nat → Int32) (pc oc pr su mu thr : Int32) (d d' dcm dw du db rf rt : Nat → Int32) (ran dsu : Int32) (dpd dod : Nat → Int32) (tab jo : Nat → Int64), i ≤ L → L + 5 < i + 5 * n → Inv np no td ct ag sl um uo ho cf wf t w l g t' w' l' g' cm tl up uu hp hl hh bst pd od su mu d d' dcm dw du db rf rt ran dsu dpd dod → m_law N L xs n i t w l g (nI np) t' w' l' g' (nI no) cm tl up uu hp hl hh gn bst ch pd od pc oc pr su mu (nI td) (nI ct) (nI ag) (nI sl) thr (nI td) (nI ct) (nI ag) (nI sl) (nI np) (nI no) d d' dcm dw du db rf rt ran dsu dpd dod tab jo = some () := by
  intro n
  induction n with
  | zero => intros; omega
  | succ n ih =>
    intro i np no td ct ag sl um uo ho cf wf t w l g t' w' l' g' cm tl up uu hp hl hh gn bst ch pd od pc oc pr su mu thr d d' dcm dw du db rf rt ran dsu dpd dod tab jo h1 h2 hI
    obtain ⟨iB, iB', iU, iH, iC, iW, iM, b1, b2, b3, b4, iZ⟩ := hI
    have hnp := iB.1
    have hno := iB'.1
    unfold m_law
    by_cases hL : L < i + 5
    · rw [if_pos hL]
    rw [if_neg hL]
    obtain ⟨j, hj, ej⟩ := pk_andE (xs i) (m := 15) 4 (by decide)
    have hj : j < 16 := hj
    rw [ej]
    have hne : ∀ b, b < 16 → j ≠ b → ¬ nI j = nI b := fun b hb hx => by rw [nI_eq (by omega) (by omega)]; exact hx
    have hc : j = 0 ∨ j = 1 ∨ j = 2 ∨ j = 3 ∨ j = 4 ∨ j = 5 ∨ j = 6 ∨ j = 7 ∨ j = 8 ∨ j = 9 ∨ j = 10 ∨ j = 11 ∨ j = 12 ∨ j = 13 ∨ j = 14 ∨ j = 15 := by omega
    rcases hc with rfl | rfl | rfl | rfl | rfl | rfl | rfl | rfl | rfl | rfl | rfl | rfl | rfl | rfl | rfl | rfl
    · rw [if_pos rfl]
      obtain ⟨t1, w1, l1, g1, np1, cm1, mu1, jo1, thr1, d1, dcm1, rf1, ran1, cf1, e, c1, c2, c3, c4, c5⟩ := k_0 hno iB iU iH iC iM jo (xs (i + 1)) (xs (i + 2)) (xs (i + 3)) (xs (i + 4))
      rw [e, Option.bind_some]
      exact ih (i + 5) np1 no td ct ag sl um uo ho cf1 wf t1 w1 l1 g1 t' w' l' g' cm1 tl up uu hp hl hh _ bst _ pd od _ _ _ su mu1 _ d1 d' dcm1 dw du db rf1 rt ran1 dsu dpd dod _ _ (by omega) (by omega) ⟨c1, iB', c2, c3, c4, iW, c5, b1, b2, b3, b4, iZ⟩
    · rw [if_neg (hne 0 (by decide) (by decide)), if_pos rfl]
      obtain ⟨t1, w1, l1, g1, no1, mu1, jo1, thr1, d1, db1, ran1, e, c1, c2, c3, c4⟩ := k_1 hnp iB' iU iH iM jo (xs (i + 1)) (xs (i + 2)) (xs (i + 3)) (xs (i + 4))
      rw [e, Option.bind_some]
      exact ih (i + 5) np no1 td ct ag sl um uo ho cf wf t w l g t1 w1 l1 g1 cm tl up uu hp hl hh _ bst _ pd od _ _ _ su mu1 _ d d1 dcm dw du db1 rf rt ran1 dsu dpd dod _ _ (by omega) (by omega) ⟨iB, c1, c2, c3, iC, iW, c4, b1, b2, b3, b4, iZ⟩
    · rw [if_neg (hne 0 (by decide) (by decide)), if_neg (hne 1 (by decide) (by decide)), if_pos rfl]
      obtain ⟨tl1, thr1, dw1, wf1, e, c1⟩ := k_2 iB iB' iW (xs (i + 1)) (xs (i + 2)) (xs (i + 3))
      rw [e, Option.bind_some]
      exact ih (i + 5) np no td ct ag sl um uo ho cf wf1 t w l g t' w' l' g' cm tl1 up uu hp hl hh _ bst _ pd od _ _ _ su mu _ d d' dcm dw1 du db rf rt ran dsu dpd dod _ _ (by omega) (by omega) ⟨iB, iB', iU, iH, iC, c1, iM, b1, b2, b3, b4, iZ⟩
    · rw [if_neg (hne 0 (by decide) (by decide)), if_neg (hne 1 (by decide) (by decide)), if_neg (hne 2 (by decide) (by decide)), if_pos rfl]
      obtain ⟨ct1, ag1, sl1, thr1, e, c1, c2, c3⟩ := k_3 b2 b3 b4 (xs (i + 1)) (xs (i + 2)) (xs (i + 3))
      rw [e, Option.bind_some]
      exact ih (i + 5) np no td ct1 ag1 sl1 um uo ho cf wf t w l g t' w' l' g' cm tl up uu hp hl hh _ bst _ pd od _ _ _ su mu _ d d' dcm dw du db rf rt ran dsu dpd dod _ _ (by omega) (by omega) ⟨iB, iB', iU, iH, iC, iW, iM, b1, c1, c2, c3, iZ⟩
    · rw [if_neg (hne 0 (by decide) (by decide)), if_neg (hne 1 (by decide) (by decide)), if_neg (hne 2 (by decide) (by decide)), if_neg (hne 3 (by decide) (by decide)), if_pos rfl]
      obtain ⟨jo1, thr1, e⟩ := k_4 iB iB' jo (xs (i + 1)) (xs (i + 2))
      rw [e, Option.bind_some]
      exact ih (i + 5) np no td ct ag sl um uo ho cf wf t w l g t' w' l' g' cm tl up uu hp hl hh _ bst _ pd od _ _ _ su mu _ d d' dcm dw du db rf rt ran dsu dpd dod _ _ (by omega) (by omega) ⟨iB, iB', iU, iH, iC, iW, iM, b1, b2, b3, b4, iZ⟩
    · rw [if_neg (hne 0 (by decide) (by decide)), if_neg (hne 1 (by decide) (by decide)), if_neg (hne 2 (by decide) (by decide)), if_neg (hne 3 (by decide) (by decide)), if_neg (hne 4 (by decide) (by decide)), if_pos rfl]
      obtain ⟨jo1, thr1, e⟩ := k_5 iB iB' iC iW b1 b2 b3 jo (xs (i + 1)) (xs (i + 2))
      rw [e, Option.bind_some]
      exact ih (i + 5) np no td ct ag sl um uo ho cf wf t w l g t' w' l' g' cm tl up uu hp hl hh _ bst _ pd od _ _ _ su mu _ d d' dcm dw du db rf rt ran dsu dpd dod _ _ (by omega) (by omega) ⟨iB, iB', iU, iH, iC, iW, iM, b1, b2, b3, b4, iZ⟩
    · rw [if_neg (hne 0 (by decide) (by decide)), if_neg (hne 1 (by decide) (by decide)), if_neg (hne 2 (by decide) (by decide)), if_neg (hne 3 (by decide) (by decide)), if_neg (hne 4 (by decide) (by decide)), if_neg (hne 5 (by decide) (by decide)), if_pos rfl]
      obtain ⟨up1, uu1, hp1, hh1, gn1, bst1, ch1, pd1, od1, pc1, oc1, pr1, su1, mu1, thr1, du1, db1, rf1, ran1, dsu1, dpd1, dod1, tab1, um1, uo1, ho1, e, c1, c2, c3, c4⟩ := k_6 (N := N) (gn := gn) (ch := ch) (pd := pd) (od := od) (ran := ran) (dsu := dsu) (dpd := dpd) (dod := dod) (tab := tab) (by omega) iB iB' iU iH iC iW b1 b2 b3 iZ
      rw [e, Option.bind_some]
      exact ih (i + 5) np no td ct ag sl um1 uo1 ho1 cf wf t w l g t' w' l' g' cm tl up1 uu1 hp1 hl hh1 _ bst1 _ pd1 od1 _ _ _ su1 mu1 _ d d' dcm dw du1 db1 rf1 rt ran1 dsu1 dpd1 dod1 _ _ (by omega) (by omega) ⟨iB, iB', c1, c2, iC, iW, c3, b1, b2, b3, b4, c4⟩
    · rw [if_neg (hne 0 (by decide) (by decide)), if_neg (hne 1 (by decide) (by decide)), if_neg (hne 2 (by decide) (by decide)), if_neg (hne 3 (by decide) (by decide)), if_neg (hne 4 (by decide) (by decide)), if_neg (hne 5 (by decide) (by decide)), if_neg (hne 6 (by decide) (by decide)), if_pos rfl]
      have e := k_7 iM
      rw [e, Option.bind_some]
      exact ih (i + 5) np no td ct ag sl um uo ho cf wf t w l g t' w' l' g' cm tl up uu hp hl hh _ bst _ pd od _ _ _ su mu _ d d' dcm dw du db rf rt ran dsu dpd dod _ _ (by omega) (by omega) ⟨iB, iB', iU, iH, iC, iW, iM, b1, b2, b3, b4, iZ⟩
    · rw [if_neg (hne 0 (by decide) (by decide)), if_neg (hne 1 (by decide) (by decide)), if_neg (hne 2 (by decide) (by decide)), if_neg (hne 3 (by decide) (by decide)), if_neg (hne 4 (by decide) (by decide)), if_neg (hne 5 (by decide) (by decide)), if_neg (hne 6 (by decide) (by decide)), if_neg (hne 7 (by decide) (by decide)), if_pos rfl]
      obtain ⟨jo1, thr1, e⟩ := k_8 hnp hno iM jo (xs (i + 1)) (xs (i + 2))
      rw [e, Option.bind_some]
      exact ih (i + 5) np no td ct ag sl um uo ho cf wf t w l g t' w' l' g' cm tl up uu hp hl hh _ bst _ pd od _ _ _ su mu _ d d' dcm dw du db rf rt ran dsu dpd dod _ _ (by omega) (by omega) ⟨iB, iB', iU, iH, iC, iW, iM, b1, b2, b3, b4, iZ⟩
    · rw [if_neg (hne 0 (by decide) (by decide)), if_neg (hne 1 (by decide) (by decide)), if_neg (hne 2 (by decide) (by decide)), if_neg (hne 3 (by decide) (by decide)), if_neg (hne 4 (by decide) (by decide)), if_neg (hne 5 (by decide) (by decide)), if_neg (hne 6 (by decide) (by decide)), if_neg (hne 7 (by decide) (by decide)), if_neg (hne 8 (by decide) (by decide)), if_pos rfl]
      obtain ⟨up1, uu1, hp1, hh1, jo1, thr1, du1, db1, um1, uo1, ho1, e, c1, c2⟩ := k_9 (N := N) (by omega) iB iB' iU iH iC iW b1 b2 b3 jo (xs (i + 1))
      rw [e, Option.bind_some]
      exact ih (i + 5) np no td ct ag sl um1 uo1 ho1 cf wf t w l g t' w' l' g' cm tl up1 uu1 hp1 hl hh1 _ bst _ pd od _ _ _ su mu _ d d' dcm dw du1 db1 rf rt ran dsu dpd dod _ _ (by omega) (by omega) ⟨iB, iB', c1, c2, iC, iW, iM, b1, b2, b3, b4, iZ⟩
    · rw [if_neg (hne 0 (by decide) (by decide)), if_neg (hne 1 (by decide) (by decide)), if_neg (hne 2 (by decide) (by decide)), if_neg (hne 3 (by decide) (by decide)), if_neg (hne 4 (by decide) (by decide)), if_neg (hne 5 (by decide) (by decide)), if_neg (hne 6 (by decide) (by decide)), if_neg (hne 7 (by decide) (by decide)), if_neg (hne 8 (by decide) (by decide)), if_neg (hne 9 (by decide) (by decide)), if_pos rfl]
      obtain ⟨jo1, thr1, e⟩ := k_10 (N := N) (by omega) hnp hno iU jo (xs (i + 1)) (xs (i + 2))
      rw [e, Option.bind_some]
      exact ih (i + 5) np no td ct ag sl um uo ho cf wf t w l g t' w' l' g' cm tl up uu hp hl hh _ bst _ pd od _ _ _ su mu _ d d' dcm dw du db rf rt ran dsu dpd dod _ _ (by omega) (by omega) ⟨iB, iB', iU, iH, iC, iW, iM, b1, b2, b3, b4, iZ⟩
    · rw [if_neg (hne 0 (by decide) (by decide)), if_neg (hne 1 (by decide) (by decide)), if_neg (hne 2 (by decide) (by decide)), if_neg (hne 3 (by decide) (by decide)), if_neg (hne 4 (by decide) (by decide)), if_neg (hne 5 (by decide) (by decide)), if_neg (hne 6 (by decide) (by decide)), if_neg (hne 7 (by decide) (by decide)), if_neg (hne 8 (by decide) (by decide)), if_neg (hne 9 (by decide) (by decide)), if_neg (hne 10 (by decide) (by decide)), if_pos rfl]
      obtain ⟨hp1, hl1, hh1, thr1, rf1, rt1, ho1, e, c1⟩ := k_11 (N := N) (by omega) iB iB' iU iH b1 (xs (i + 1)) (xs (i + 2)) (xs (i + 3))
      rw [e, Option.bind_some]
      exact ih (i + 5) np no td ct ag sl um uo ho1 cf wf t w l g t' w' l' g' cm tl up uu hp1 hl1 hh1 _ bst _ pd od _ _ _ su mu _ d d' dcm dw du db rf1 rt1 ran dsu dpd dod _ _ (by omega) (by omega) ⟨iB, iB', iU, c1, iC, iW, iM, b1, b2, b3, b4, iZ⟩
    · rw [if_neg (hne 0 (by decide) (by decide)), if_neg (hne 1 (by decide) (by decide)), if_neg (hne 2 (by decide) (by decide)), if_neg (hne 3 (by decide) (by decide)), if_neg (hne 4 (by decide) (by decide)), if_neg (hne 5 (by decide) (by decide)), if_neg (hne 6 (by decide) (by decide)), if_neg (hne 7 (by decide) (by decide)), if_neg (hne 8 (by decide) (by decide)), if_neg (hne 9 (by decide) (by decide)), if_neg (hne 10 (by decide) (by decide)), if_neg (hne 11 (by decide) (by decide)), if_pos rfl]
      obtain ⟨jo1, thr1, e⟩ := k_12 hnp iH jo (xs (i + 1))
      rw [e, Option.bind_some]
      exact ih (i + 5) np no td ct ag sl um uo ho cf wf t w l g t' w' l' g' cm tl up uu hp hl hh _ bst _ pd od _ _ _ su mu _ d d' dcm dw du db rf rt ran dsu dpd dod _ _ (by omega) (by omega) ⟨iB, iB', iU, iH, iC, iW, iM, b1, b2, b3, b4, iZ⟩
    · rw [if_neg (hne 0 (by decide) (by decide)), if_neg (hne 1 (by decide) (by decide)), if_neg (hne 2 (by decide) (by decide)), if_neg (hne 3 (by decide) (by decide)), if_neg (hne 4 (by decide) (by decide)), if_neg (hne 5 (by decide) (by decide)), if_neg (hne 6 (by decide) (by decide)), if_neg (hne 7 (by decide) (by decide)), if_neg (hne 8 (by decide) (by decide)), if_neg (hne 9 (by decide) (by decide)), if_neg (hne 10 (by decide) (by decide)), if_neg (hne 11 (by decide) (by decide)), if_neg (hne 12 (by decide) (by decide)), if_pos rfl]
      obtain ⟨up1, uu1, thr1, du1, db1, um1, uo1, e, c1⟩ := k_13 (N := N) (by omega) hnp hno iU (xs (i + 1))
      rw [e, Option.bind_some]
      exact ih (i + 5) np no td ct ag sl um1 uo1 ho cf wf t w l g t' w' l' g' cm tl up1 uu1 hp hl hh _ bst _ pd od _ _ _ su mu _ d d' dcm dw du1 db1 rf rt ran dsu dpd dod _ _ (by omega) (by omega) ⟨iB, iB', c1, iH, iC, iW, iM, b1, b2, b3, b4, iZ⟩
    · rw [if_neg (hne 0 (by decide) (by decide)), if_neg (hne 1 (by decide) (by decide)), if_neg (hne 2 (by decide) (by decide)), if_neg (hne 3 (by decide) (by decide)), if_neg (hne 4 (by decide) (by decide)), if_neg (hne 5 (by decide) (by decide)), if_neg (hne 6 (by decide) (by decide)), if_neg (hne 7 (by decide) (by decide)), if_neg (hne 8 (by decide) (by decide)), if_neg (hne 9 (by decide) (by decide)), if_neg (hne 10 (by decide) (by decide)), if_neg (hne 11 (by decide) (by decide)), if_neg (hne 12 (by decide) (by decide)), if_neg (hne 13 (by decide) (by decide)), if_pos rfl]
      obtain ⟨jo1, thr1, e⟩ := k_14 (N := N) hN hnp hno iU iH iC b1 b4 jo (xs (i + 1))
      rw [e, Option.bind_some]
      exact ih (i + 5) np no td ct ag sl um uo ho cf wf t w l g t' w' l' g' cm tl up uu hp hl hh _ bst _ pd od _ _ _ su mu _ d d' dcm dw du db rf rt ran dsu dpd dod _ _ (by omega) (by omega) ⟨iB, iB', iU, iH, iC, iW, iM, b1, b2, b3, b4, iZ⟩
    · rw [if_neg (hne 0 (by decide) (by decide)), if_neg (hne 1 (by decide) (by decide)), if_neg (hne 2 (by decide) (by decide)), if_neg (hne 3 (by decide) (by decide)), if_neg (hne 4 (by decide) (by decide)), if_neg (hne 5 (by decide) (by decide)), if_neg (hne 6 (by decide) (by decide)), if_neg (hne 7 (by decide) (by decide)), if_neg (hne 8 (by decide) (by decide)), if_neg (hne 9 (by decide) (by decide)), if_neg (hne 10 (by decide) (by decide)), if_neg (hne 11 (by decide) (by decide)), if_neg (hne 12 (by decide) (by decide)), if_neg (hne 13 (by decide) (by decide)), if_neg (hne 14 (by decide) (by decide)), if_pos rfl]
      obtain ⟨td1, hp1, hh1, jo1, thr1, ho1, e, c1, c2, c3⟩ := k_15 (N := N) (by omega) hnp hno iH b1 jo (xs (i + 1))
      have iC1 : I_C np td1 cf cm dcm := ⟨fun q hq => ⟨(iC.1 q hq).1, (iC.1 q hq).2.1, Nat.le_trans (iC.1 q hq).2.2 c1⟩, iC.2⟩
      rw [e, Option.bind_some]
      exact ih (i + 5) np no td1 ct ag sl um uo ho1 cf wf t w l g t' w' l' g' cm tl up uu hp1 hl hh1 _ bst _ pd od _ _ _ su mu _ d d' dcm dw du db rf rt ran dsu dpd dod _ _ (by omega) (by omega) ⟨iB, iB', iU, c3, iC1, iW, iM, c2, b2, b3, b4, iZ⟩
theorem pure_all (L : Nat) (hL : L ≤ 2560) (xs : Nat → Int32) : ∃ N n, m_goal N n L xs := by
  refine ⟨20000, L + 2, ?_⟩
  have hpm : ∀ p, p < 10 → (upd (upd (upd (upd (upd (upd (upd (upd (upd (upd (fun _ => 0) (0 : Int32).toNatClampNeg (-1)) (1 : Int32).toNatClampNeg (-1)) (2 : Int32).toNatClampNeg (-1)) (3 : Int32).toNatClampNeg (-1)) (4 : Int32).toNatClampNeg (-1)) (5 : Int32).toNatClampNeg (-1)) (6 : Int32).toNatClampNeg (-1)) (7 : Int32).toNatClampNeg (-1)) (8 : Int32).toNatClampNeg (-1)) (9 : Int32).toNatClampNeg (-1)) p = mI := by decide +kernel
  unfold m_goal
  refine law_ok 20000 L xs (by omega) (L + 2) 0 0 0 0 0 0 100 (fun _ => 0) 0 0 (fun _ => 0) (fun _ => 0) _ _ _ _ _ _ _ _ _ _ _ _ _ _ _ _ _ _ _ _ _ _ _ _ _ _ _ _ _ _ _ _ _ _ _ _ _ _ _ _ (Nat.zero_le _) (by omega) ⟨⟨by omega, rfl, rfl, fun i hi => by omega⟩, ⟨by omega, rfl, rfl, fun i hi => by omega⟩, ⟨rfl, by decide, fun p hp => ⟨rfl, (show (0 : Nat) < 2 ^ 0 by decide), rfl⟩, fun p _ _ => rfl, fun o ho => by omega⟩, ⟨rfl, by decide, fun p hp => by omega, fun p _ hp => hpm p hp, fun p hp => Or.inl (hpm p hp), fun p q hp _ _ _ => hpm p hp, fun o ho => by omega⟩, ⟨fun i hi => by omega, fun i j _ hj => by omega⟩, fun k _ => ⟨rfl, rfl, (show (0 : Nat) ≤ 1000000 by omega)⟩, ⟨rfl, Or.inl ⟨rfl, rfl⟩⟩, by omega, by omega, by omega, by omega, fun s _ => rfl⟩
