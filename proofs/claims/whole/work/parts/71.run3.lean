/-! Own rows: run as a whole, in the reference and in the class. -/
theorem b_Q {α β : Type} {o : Option α} {f : α → Option β} {Q : Option β → Prop} {a : α} (e : o = some a) (h : Q (f a)) : Q (o.bind f) := by rw [e]; exact h
theorem e_runD {N np no td uo ho : Nat} {ct ag ran sum c dc c' dc' : Int32} {um : Nat → Nat} {t w l gr t' w' l' gr' d d' dcm dw du db rf rt dpd dod hl : Nat → Int32} {tab : Nat → Int64} {my : Nat → Nat → Bool} {nt : Nat → Nat → Nat} {s0 : CS} (hN : 1025 ≤ N) (hB : I_B np c dc t w l gr d) (hB' : I_B no c' dc' t' w' l' gr' d') (hnt : ∀ p o, p < np → o < no → nt p o ≤ 1000000)
    (hU0 : I_U np no um uo s0.1 s0.2.1 du db) (hH0 : I_H np no td ho s0.2.2.1 hl s0.2.2.2 rf rt) (hmy : ∀ q o, q < np → o < no → mayB um uo ho s0.2.2.1 (fitB t w l gr t' w' l' gr') q o = my q o)
    (hw : ∀ p o, p < np → o < no → m_D_netOf (nI td) ct ag d d' dcm dw (nI p) (nI o) = some (nI (nt p o))) :
    ∃ du' db' rf' dpd' dod' tab' um' uo' ho', m_D_run N (nI td) ct ag (nI np) (nI no) d d' dcm dw du db rf rt ran sum dpd dod tab = some (nI (TT (gf my nt) no np np (fun _ => false) % 16), nI 0, du', db', rf', nI 1, nI (TT (gf my nt) no np np (fun _ => false) / 16), dpd', dod', tab') ∧ I_U np no um' uo' (stC (gf my nt) no np s0 np).1 (stC (gf my nt) no np s0 np).2.1 du' db' ∧ I_H np no td ho' (stC (gf my nt) no np s0 np).2.2.1 hl (stC (gf my nt) no np s0 np).2.2.2 rf' rt ∧ (∀ q, q < np → dpd' q = pdN (gf my nt) no np q) ∧ ∀ o, o < no → dod' o = odN (gf my nt) no np o := by
  have hnp := hB.1
  have hno := hB'.1
  have hgb : ∀ p o, p < np → o < no → gf my nt p o ≤ 16000001 := fun p o h1 h2 => by unfold gf; have := hnt p o h1 h2; split <;> omega
  have hc : ∀ p o, p < np → o < no → m_D_can N (nI td) (nI np) d d' du db rf rt (nI p) (nI o) = some (bI (my p o)) := fun p o h1 h2 => by
    rw [e_can (N := N) (by omega) hB hB' hU0 hH0 h1 h2, hmy p o h1 h2]
  have hx : ∀ o, o < no → (nI o = (-1 : Int32) ↔ (fun _ : Nat => false) o = true) := fun o ho => ⟨fun x => by rw [q_m1', q_eqm (by omega)] at x; exact x.elim, fun x => by cases x⟩
  have hfill : ∀ tab, ∃ t', m_D_fill N (nI td) ct ag (nI np) (nI no) d d' dcm dw du db rf rt tab (-1) = some t' ∧ ∀ q s, q ≤ np → s < 1024 → t' (1024 * q + s) = lN (TT (gf my nt) no np (np - q) s.testBit) := fun tab => by
    have := e_fill (ex := fun _ => false) tab hN hnp hno hnt hc hw (x1 := -1) hx
    rw [gx_f] at this
    exact this
  let Q : Option (Int32 × Int32 × (Nat → Int32) × (Nat → Int32) × (Nat → Int32) × Int32 × Int32 × (Nat → Int32) × (Nat → Int32) × (Nat → Int64)) → Prop := fun r => ∃ du' db' rf' dpd' dod' tab' um' uo' ho', r = some (nI (TT (gf my nt) no np np (fun _ => false) % 16), nI 0, du', db', rf', nI 1, nI (TT (gf my nt) no np np (fun _ => false) / 16), dpd', dod', tab') ∧ I_U np no um' uo' (stC (gf my nt) no np s0 np).1 (stC (gf my nt) no np s0 np).2.1 du' db' ∧ I_H np no td ho' (stC (gf my nt) no np s0 np).2.2.1 hl (stC (gf my nt) no np s0 np).2.2.2 rf' rt ∧ (∀ q, q < np → dpd' q = pdN (gf my nt) no np q) ∧ ∀ o, o < no → dod' o = odN (gf my nt) no np o
  show Q (m_D_run N (nI td) ct ag (nI np) (nI no) d d' dcm dw du db rf rt ran sum dpd dod tab)
  unfold m_D_run
  refine d_7 (Q := Q) (by omega) (fun dod1 => ?_)
  refine d_28 (Q := Q) (by omega) (fun dpd1 hpd => ?_)
  obtain ⟨u2, e2, h2⟩ := hfill tab
  refine b_Q (Q := Q) e2 ?_
  have hb := TT_bd (gf my nt) 16000001 no np hgb np (Nat.le_refl _) (fun _ => false)
  have hy : ((u2 (0 : Int32).toNatClampNeg) / 16).toInt32 = nI (TT (gf my nt) no np np (fun _ => false) / 16) := by
    have h3 := h2 0 0 (by omega) (by omega)
    have h4 : TT (gf my nt) no np np (Nat.testBit 0) = TT (gf my nt) no np np (fun _ => false) := TT_congr _ _ _ _ _ _ (fun k _ => Nat.zero_testBit k)
    have h5 : u2 0 = lN (TT (gf my nt) no np np (fun _ => false)) := by rw [← h4]; exact h3
    rw [pk_cl 0, h5]
    show (lN _ / lN 16).toInt32 = _
    rw [pk_lDiv (by omega) (by omega) (by omega), lN_i]
  refine d_66 (Q := Q) hN hnp hno hnt hc hw hy (fun dod2 tab2 hod => ?_)
  obtain ⟨u7, e7, h7⟩ := hfill tab2
  refine b_Q (Q := Q) e7 ?_
  refine e_126 (Q := Q) (by omega) hB hB' hnt hU0 hH0 hmy hw h7 hod hpd (fun y2 du' db' rf' dpd' um' uo' ho' g1 g2 g3 => ?_)
  exact ⟨du', db', rf', dpd', dod2, u7, um', uo', ho', by rw [hy]; rfl, g1, g2, g3, hod⟩
theorem e_runS {N np no : Nat} {t w l gr t' w' l' gr' cm tl gn bst ch pd od : Nat → Int32} {td ct ag : Int32} {s0 : CS} {my : Nat → Nat → Bool} {nt : Nat → Nat → Nat} (hN : 1025 ≤ N) (hnp : np ≤ 10) (hno : no ≤ 10) (hnt : ∀ p o, p < np → o < no → nt p o ≤ 1000000)
    (hm : ∀ p o, p < np → o < no → m_S_mayPair t w l gr t' w' l' gr' s0.1 s0.2.1 s0.2.2.1 s0.2.2.2 (nI p) (nI o) = some (bI (my p o))) (hw : ∀ p o, p < np → o < no → m_S_worthToday w l w' l' cm tl td ct ag (nI p) (nI o) = some (nI (nt p o))) (hz : ∀ s, s < 1024 → bst s = nI 0) :
    ∃ G b' c' pd' od', m_S_run N t w l gr (nI np) t' w' l' gr' (nI no) cm tl s0.1 s0.2.1 s0.2.2.1 s0.2.2.2 gn bst ch pd od td ct ag = some (nI (TT (gf my nt) no np np (fun _ => false) % 16), (stC (gf my nt) no np s0 np).1, (stC (gf my nt) no np s0 np).2.1, (stC (gf my nt) no np s0 np).2.2.1, (stC (gf my nt) no np s0 np).2.2.2, G, b', c', pd', od', nI np, nI no, nI (TT (gf my nt) no np np (fun _ => false) % 16), nI (TT (gf my nt) no np np (fun _ => false) / 16), nI 1) ∧ (∀ s, s < 1024 → b' s = nI 0) ∧ (∀ o, o < no → od' o = odN (gf my nt) no np o) ∧ ∀ q, q < np → pd' q = pdN (gf my nt) no np q := by
  have hgb : ∀ p o, p < np → o < no → gf my nt p o ≤ 16000001 := fun p o h1 h2 => by unfold gf; have := hnt p o h1 h2; split <;> omega
  obtain ⟨G, e1, h1⟩ := e_offers (N := N) gn (by omega) hnp hno hm hw
  obtain ⟨b', c', pd', od', e2, h2, h3, h4, h5⟩ := e_solve (N := N) ch pd od hN hnp hno hgb h1 hz
  refine ⟨G, b', c', pd', od', ?_, h2, h4, h5⟩
  unfold m_S_run
  rw [e1]
  simp only [Option.bind_some, m_B_size]
  rw [e2]
  simp only [Option.bind_some]
  refine (e_run27 (g := gf my nt) (no := no) (by omega) hnp hno h3).trans ?_
  simp only [Option.bind_some, m_M_pairCount]
