/-! ===== game, value: all states ===== -/
theorem gB_n {A : LV} (w : WF A) (s p : Nat) : gB A s p A.n = if gC A s p = true then gu p (lmx (gK A s p) (gV A s p) 6) else 0 := by
  have hn := w.n6
  have e := lmx_up (ok := gK A s p) (v := gV A s p) (n := A.n) (fun k hk => gK_o hk) (6 - A.n)
  rw [show A.n + (6 - A.n) = 6 by omega] at e
  rw [e, gC_n w]
  unfold gB
  cases al (fun f => !(gK A s p f)) A.n <;> simp
theorem gL_B {A : LV} (w : WF A) {s p : Nat} (hs : s < 729) (hp : p < 2) : (if (!(gC A s p) && gC A s (1 - p)) = true then gB A s (1 - p) A.n else gB A s p A.n) = gu p (gL A s p) := by
  have q : 1 - (1 - p) = p := by omega
  have l2 : gC A s (1 - p) = true → gL A s (1 - p) = lmx (gK A s (1 - p)) (gV A s (1 - p)) 6 := fun h => by
    rw [gL_in w hs (show 1 - p < 2 by omega), if_pos h]
  rw [gL_in w hs hp, gB_n w s p, gB_n w s (1 - p)]
  cases c1 : gC A s p
  · cases c2 : gC A s (1 - p)
    · simp [gu]
    · rw [l2 c2]
      unfold gu
      rcases (by omega : p = 0 ∨ p = 1) with rfl | rfl
      · simp
      · simp
  · simp
theorem gSol.fr {A : LV} {s : Nat} {m m' : MI} (h : gSol A s m) (q : ∀ a j, a = 79 ∨ a = 80 → j = 2 * s ∨ j = 2 * s + 1 → m'.1 a j = m.1 a j) : gSol A s m' := fun p hp => by
  rw [q 79 (2 * s + p) (Or.inl rfl) (by omega), q 80 (2 * s + p) (Or.inr rfl) (by omega)]
  exact h p hp
theorem gt_gt (s p f : Nat) : s < gt' s p f := by
  have : 0 < 3 ^ f * (p + 1) := Nat.mul_pos (Nat.pow_pos (by decide)) (by omega)
  unfold gt'
  omega
def pQ (A : LV) (n s a j : Nat) : Prop := a = 81 ∨ ((a = 79 ∨ a = 80 ∨ a = 82) ∧ fc (gF A s) = n ∧ (j = 2 * s ∨ j = 2 * s + 1))
theorem m_solveG2 {A : LV} {m : MI} {s n : Nat} (h : MR A m) (w : WF A) (hs : s < 729) (hn7 : n < 8) (S : ∀ t, t < 729 → fc (gF A t) < n → gSol A t m) : ∃ m', M_solveGame_s2 (nI n) (nI s, m) = some (.inl (nI (s + 1), m')) ∧ ag (pQ A n s) m m' ∧ (fc (gF A s) = n → gSol A s m') := by
  have f6 := fc_le (gF A s)
  obtain ⟨m1, u1, u2, u3⟩ := m_spreadGame hs m
  have h1 : MR A m1 := h.tg u3 (fun a j e => Or.inl (Or.inr (Or.inl (by omega))))
  have g1 : ag (pQ A n s) m m1 := ag_mo u3 (fun a j e => Or.inl e)
  have i1 : nI s + 1 = nI (s + 1) := by rw [li_1, nI_add]
  unfold M_solveGame_s2
  simp only []
  rw [if_pos (show nI s < 729 from by rw [li_729]; exact nI_lt hs (by omega)), u1]
  simp only [Option.bind_some]
  rw [m_free h1 w u2]
  simp only [Option.bind_some]
  by_cases e : fc (gF A s) = n
  · rw [if_pos (by rw [e])]
    have ha : ∀ p f, p < 2 → gK A s p f = true → gSol A (gt' s p f) m1 := by
      intro p f hp q
      obtain ⟨t0, t1, t2, t3⟩ := gt_f w hs hp q
      have hf6 : f < 6 := by have := (gK_f q).1; have := w.n6; omega
      have := fc_rmv hf6 (cn_F q)
      refine (S _ t0 (by rw [t3]; omega)).fr fun a j e1 e2 => u3.1 a j (by omega)
    have H0 : ∀ f, gK A s 0 f = true → m1.1 79 (2 * gt' s 0 f + (1 - 0)) = bI (gS A (gt' s 0 f) (1 - 0)).isSome ∧ m1.1 80 (2 * gt' s 0 f + (1 - 0)) = iI (gu (1 - 0) (gL A (gt' s 0 f) (1 - 0))) := fun f q => ha 0 f (by omega) q (1 - 0) (by omega)
    have e30 := m_solveState h1 w u2 hs (show 0 < 2 by omega) H0
    have e30' : M_solveState (nI s) 0 m1 = _ := e30
    rw [e30']
    simp only [Option.bind_some]
    generalize hm30 : (si (si (si m1 79 (2 * s + 0) (bI (gS A s 0).isSome)) 80 (2 * s + 0) (iI (gB A s 0 A.n))) 82 (2 * s + 0) (bI (!gC A s 0))) = m30
    have h30 : MR A m30 := by
      rw [← hm30]
      exact ((h1.sx (Or.inl (Or.inr (Or.inl (by omega))))).sx (Or.inl (Or.inr (Or.inl (by omega))))).sx (Or.inl (Or.inr (Or.inl (by omega))))
    have d30 : gD s m30 := fun g hg => by
      rw [← hm30, si_v, if_neg (by omega), si_v, if_neg (by omega), si_v, if_neg (by omega)]
      exact u2 g hg
    have H1 : ∀ f, gK A s 1 f = true → m30.1 79 (2 * gt' s 1 f + (1 - 1)) = bI (gS A (gt' s 1 f) (1 - 1)).isSome ∧ m30.1 80 (2 * gt' s 1 f + (1 - 1)) = iI (gu (1 - 1) (gL A (gt' s 1 f) (1 - 1))) := fun f q => by
      have gg := gt_gt s 1 f
      have := ha 1 f (by omega) q (1 - 1) (by omega)
      rw [← hm30, si_v, if_neg (by omega), si_v, if_neg (by omega), si_v, if_neg (by omega), si_v, if_neg (by omega), si_v, if_neg (by omega), si_v, if_neg (by omega)]
      exact this
    have e33 := m_solveState h30 w d30 hs (show 1 < 2 by omega) H1
    have e33' : M_solveState (nI s) 1 m30 = _ := e33
    rw [e33']
    simp only [Option.bind_some]
    generalize hm33 : (si (si (si m30 79 (2 * s + 1) (bI (gS A s 1).isSome)) 80 (2 * s + 1) (iI (gB A s 1 A.n))) 82 (2 * s + 1) (bI (!gC A s 1))) = m33
    have R80a : m33.1 80 (2 * s) = iI (gB A s 0 A.n) := by rw [← hm33, ← hm30, si_v, if_neg (by omega), si_v, if_neg (by omega), si_v, if_neg (by omega), si_v, if_neg (by omega), si_v, if_pos ⟨rfl, rfl⟩]
    have R80b : m33.1 80 (2 * s + 1) = iI (gB A s 1 A.n) := by rw [← hm33, si_v, if_neg (by omega), si_v, if_pos ⟨rfl, rfl⟩]
    have R82a : m33.1 82 (2 * s) = bI (!gC A s 0) := by rw [← hm33, ← hm30, si_v, if_neg (by omega), si_v, if_neg (by omega), si_v, if_neg (by omega), si_v, if_pos ⟨rfl, rfl⟩]
    have R82b : m33.1 82 (2 * s + 1) = bI (!gC A s 1) := by rw [← hm33, si_v, if_pos ⟨rfl, rfl⟩]
    have R79a : m33.1 79 (2 * s) = bI (gS A s 0).isSome := by rw [← hm33, ← hm30, si_v, if_neg (by omega), si_v, if_neg (by omega), si_v, if_neg (by omega), si_v, if_neg (by omega), si_v, if_neg (by omega), si_v, if_pos ⟨rfl, rfl⟩]
    have R79b : m33.1 79 (2 * s + 1) = bI (gS A s 1).isSome := by rw [← hm33, si_v, if_neg (by omega), si_v, if_neg (by omega), si_v, if_pos ⟨rfl, rfl⟩]
    have g33 : ag (pQ A n s) m m33 := by
      rw [← hm33, ← hm30]
      refine ag_st (ag_st (ag_st (ag_st (ag_st (ag_st g1 ?_) ?_) ?_) ?_) ?_) ?_
      all_goals (unfold pQ; omega)
    have ix0 : (2 : Int32) * nI s = nI (2 * s) := by rw [li_2, pk_mul]
    have ix1 : nI (2 * s) + 1 = nI (2 * s + 1) := by rw [li_1, nI_add]
    simp only [ix0, ix1]
    rw [ldA_n (show 2 * s < 1458 by omega) (by omega), R80a]
    simp only [Option.bind_some]
    rw [ldA_n (show 2 * s + 1 < 1458 by omega) (by omega), R80b]
    simp only [Option.bind_some]
    rw [ldB_n (show 2 * s < 1458 by omega) (by omega) R82a, ldB_n (show 2 * s + 1 < 1458 by omega) (by omega) R82b]
    have q0 := gL_B w hs (show 0 < 2 by omega)
    have q1 := gL_B w hs (show 1 < 2 by omega)
    simp only [Nat.sub_zero] at q0
    simp only [Nat.sub_self] at q1
    have X42 : (((some (!gC A s 0) : Option Bool).bind fun x53 => if x53 = true then (some (!gC A s 1) : Option Bool).bind fun x57 => some (!x57) else some false).bind fun c46 => if c46 = true then some (iI (gB A s 1 A.n)) else some (iI (gB A s 0 A.n))) = some (iI (gu 0 (gL A s 0))) := by
      rw [← q0]
      cases gC A s 0 <;> cases gC A s 1 <;> simp
    have X64 : (((some (!gC A s 1) : Option Bool).bind fun x53 => if x53 = true then (some (!gC A s 0) : Option Bool).bind fun x57 => some (!x57) else some false).bind fun c46 => if c46 = true then some (iI (gB A s 0 A.n)) else some (iI (gB A s 1 A.n))) = some (iI (gu 1 (gL A s 1))) := by
      rw [← q1]
      cases gC A s 0 <;> cases gC A s 1 <;> simp
    rw [X42]
    simp only [Option.bind_some]
    rw [stA_n (show 2 * s < 1458 by omega) (by omega)]
    simp only [Option.bind_some]
    rw [ldB_n (show 2 * s + 1 < 1458 by omega) (by omega) (show (si m33 80 (2 * s) (iI (gu 0 (gL A s 0)))).1 82 (2 * s + 1) = bI (!gC A s 1) from by rw [si_v, if_neg (by omega)]; exact R82b), ldB_n (show 2 * s < 1458 by omega) (by omega) (show (si m33 80 (2 * s) (iI (gu 0 (gL A s 0)))).1 82 (2 * s) = bI (!gC A s 0) from by rw [si_v, if_neg (by omega)]; exact R82a)]
    rw [X64]
    simp only [Option.bind_some]
    rw [stA_n (show 2 * s + 1 < 1458 by omega) (by omega)]
    simp only [Option.bind_some, i1]
    refine ⟨_, rfl, ag_st (ag_st g33 (by unfold pQ; omega)) (by unfold pQ; omega), fun _ p hp => ?_⟩
    rcases (by omega : p = 0 ∨ p = 1) with rfl | rfl
    · constructor
      · rw [si_v, if_neg (by omega), si_v, if_neg (by omega)]; exact R79a
      · rw [si_v, if_neg (by omega), si_v, if_pos ⟨rfl, rfl⟩]
    · constructor
      · rw [si_v, if_neg (by omega), si_v, if_neg (by omega)]; exact R79b
      · rw [si_v, if_pos ⟨rfl, rfl⟩]
  · rw [if_neg (fun z => e ((nI_eq (by omega) (by omega)).mp z))]
    simp only [Option.bind_some, i1]
    exact ⟨m1, rfl, g1, fun z => absurd z e⟩
def pG (a _j : Nat) : Prop := 79 ≤ a ∧ a ≤ 82
theorem pG_M {a j : Nat} (h : pG a j) : pM a j := by unfold pG at h; exact Or.inr (Or.inl (by omega))
theorem m_solveGn {A : LV} {m : MI} {n : Nat} (h : MR A m) (w : WF A) (hn7 : n < 8) (S : ∀ t, t < 729 → fc (gF A t) < n → gSol A t m) : ∃ m', lp (M_solveGame_s2 (nI n)) FUEL (0, m) = some m' ∧ ag pG m m' ∧ ∀ t, t < 729 → fc (gF A t) < n + 1 → gSol A t m' := by
  obtain ⟨o, q1, q2, q3⟩ := lp_inv (step := M_solveGame_s2 (nI n)) (s := (nI 0, m)) (fun k t => t.1 = nI k ∧ ag pG m t.2 ∧ ∀ s, s < 729 → fc (gF A s) < n ∨ (fc (gF A s) = n ∧ s < k) → gSol A s t.2) (fun o => ag pG m o ∧ ∀ t, t < 729 → fc (gF A t) < n + 1 → gSol A t o) 729 (by omega) ⟨rfl, ag_rf _ _, fun s hs q => S s hs (by omega)⟩ (by
      rintro k ⟨i, u⟩ hk ⟨t1, t2, t3⟩
      simp only at t1 t2 t3; subst t1
      have hu : MR A u := h.tg t2 (fun a j z => Or.inl (pG_M z))
      obtain ⟨m', e1, e2, e3⟩ := m_solveG2 hu w hk hn7 (fun t ht q => t3 t ht (Or.inl q))
      refine Or.inl ⟨_, e1, rfl, ag_tr t2 (ag_mo e2 (fun a j z => by unfold pQ at z; unfold pG; omega)), fun s hs q => ?_⟩
      by_cases e : fc (gF A s) = n ∧ s = k
      · obtain ⟨e4, e5⟩ := e
        subst e5
        exact e3 e4
      · refine (t3 s hs (by omega)).fr fun a j z1 z2 => e2.1 a j ?_
        unfold pQ
        rintro (z | ⟨_, z4, z5⟩)
        · omega
        · have : s = k := by omega
          subst this
          exact e ⟨z4, rfl⟩) (by
      rintro ⟨i, u⟩ ⟨t1, t2, t3⟩
      simp only at t1 t2 t3; subst t1
      refine ⟨u, ?_, t2, fun t ht q => t3 t ht (by omega)⟩
      unfold M_solveGame_s2
      simp only []
      rw [if_neg (show ¬ nI 729 < 729 from by rw [li_729]; exact nI_nlt (by omega) (by omega))])
  rw [show (nI 0 : Int32) = 0 from rfl] at q1
  exact ⟨o, q1, q2, q3⟩
theorem gF_fc {A : LV} (w : WF A) (s : Nat) : fc (gF A s) ≤ A.n := by
  unfold gF
  rw [fc_bs _ w.n6]
  have := sm_le (f := fun f => if (decide (A.ow f = 0) && decide (dg s f = 0)) = true then 1 else 0) (c := 1) (n := A.n) (fun k _ => by show (if (decide (A.ow k = 0) && decide (dg s k = 0)) = true then 1 else 0) ≤ 1; split <;> omega)
  omega
theorem m_solveGame {A : LV} {m : MI} (h : MR A m) (w : WF A) : ∃ m', M_solveGame m = some m' ∧ ag pG m m' ∧ ∀ t, t < 729 → gSol A t m' := by
  have hn := w.n6
  obtain ⟨o, q1, q2, q3⟩ := lp_inv (step := M_solveGame_s1) (s := (nI 0, m)) (fun k t => t.1 = nI k ∧ ag pG m t.2 ∧ ∀ s, s < 729 → fc (gF A s) < k → gSol A s t.2) (fun o => ag pG m o ∧ ∀ t, t < 729 → gSol A t o) (A.n + 1) (by omega) ⟨rfl, ag_rf _ _, fun s hs q => absurd q (Nat.not_lt_zero _)⟩ (by
      rintro k ⟨i, u⟩ hk ⟨t1, t2, t3⟩
      simp only at t1 t2 t3; subst t1
      have hu : MR A u := h.tg t2 (fun a j z => Or.inl (pG_M z))
      obtain ⟨m', e1, e2, e3⟩ := m_solveGn hu w (show k < 8 by omega) t3
      refine Or.inl ⟨(nI (k + 1), m'), ?_, rfl, ag_tr t2 e2, e3⟩
      unfold M_solveGame_s1
      simp only []
      rw [hu.hn, if_pos (nI_le (show k ≤ A.n by omega) (by omega)), e1]
      simp only [Option.bind_some, li_1, nI_add]) (by
      rintro ⟨i, u⟩ ⟨t1, t2, t3⟩
      simp only at t1 t2 t3; subst t1
      have hu : MR A u := h.tg t2 (fun a j z => Or.inl (pG_M z))
      refine ⟨u, ?_, t2, fun t ht => t3 t ht (by have := gF_fc w t; omega)⟩
      unfold M_solveGame_s1
      simp only []
      rw [hu.hn, if_neg (nI_ge (show A.n < A.n + 1 by omega) (by omega))])
  rw [show (nI 0 : Int32) = 0 from rfl] at q1
  unfold M_solveGame
  rw [q1]
  exact ⟨o, rfl, q2, q3⟩
theorem gM_00 (A : LV) (p : Nat) : gM A 0 p = os A (p + 1) := by
  unfold gM os
  refine bs_cg fun k _ => ?_
  rw [dg_0, decide_eq_false (show ¬ 0 = p + 1 by omega), Bool.or_false]
theorem gF_00 (A : LV) : gF A 0 = os A 0 := by
  unfold gF os
  refine bs_cg fun k _ => ?_
  rw [dg_0, decide_eq_true rfl, Bool.and_true]
theorem gS_00 (A : LV) : gS A 0 0 = gwin A := by
  unfold gS gwin
  rw [gM_00, gM_00, gF_00]
theorem gL_00 (A : LV) : gL A 0 0 = gld A := by
  unfold gL gld
  rw [gM_00, gM_00, gF_00]
theorem fnd_up {P : Nat → Bool} {n : Nat} (h : ∀ k, n ≤ k → P k = false) : ∀ k, fnd P (n + k) = fnd P n
  | 0 => rfl
  | k + 1 => by
    show (fnd P (n + k)).elim (if P (n + k) = true then some (n + k) else none) some = _
    rw [fnd_up h k, h (n + k) (by omega)]
    cases fnd P n <;> rfl
theorem gwin_n {A : LV} (w : WF A) : gwin A = fnd (fun f => gK A 0 0 f && (gS A (gt' 0 0 f) 1).isNone) A.n := by
  have hn := w.n6
  have e := fnd_up (P := fun f => gK A 0 0 f && (gS A (gt' 0 0 f) 1).isNone) (n := A.n) (fun k hk => by
    show (gK A 0 0 k && _) = false
    rw [gK_o hk, Bool.false_and]) (6 - A.n)
  rw [show A.n + (6 - A.n) = 6 by omega] at e
  rw [← gS_00, gS_in w (show 0 < 729 by omega) (show 0 < 2 by omega)]
  exact e
theorem M_game_v {A : LV} {μ : MI} (h : MR A μ) (w : WF A) (x : Int32) : ∃ m, M_game x μ = some (gameV A x, m) ∧ ag pM μ m := by
  have hn := w.n6
  have hp := w.p3
  unfold M_game gameV
  have g0 : ag pM μ (si μ 62 10 (nI 0)) := ag_62 (by omega)
  have h' : MR A (si μ 62 10 (nI 0)) := h.agM g0
  rw [thr0]
  simp only [Option.bind_some, M_in1]
  have xr : (x < 0 ∨ 1 < x) ↔ inR x 2 = false := by
    unfold inR
    rw [decide_eq_false_iff_not, Int32.lt_iff_toInt_lt, Int32.lt_iff_toInt_lt]
    show x.toInt < 0 ∨ 1 < x.toInt ↔ _
    omega
  by_cases h1 : x < 0 ∨ 1 < x
  · rw [xr.mp h1, if_pos h1]
    exact ⟨_, rfl, g0⟩
  have h2 : inR x 2 = true := by
    cases q : inR x 2
    · exact absurd (xr.mpr q) h1
    · rfl
  rw [h2, if_neg h1, h'.hp]
  simp only [if_true]
  rw [show (2 : Int32) = nI 2 from rfl]
  by_cases e3 : A.p < 2
  · rw [if_pos (nI_lt e3 (by omega)), if_pos e3]
    exact ⟨_, rfl, g0⟩
  rw [if_neg (nI_nlt (by omega) (by omega)), if_neg e3]
  obtain ⟨m, q1, q2, q3⟩ := m_solveGame h' w
  rw [q1]
  simp only [Option.bind_some]
  have g1 : ag pM μ m := ag_tr g0 (ag_mo q2 (fun a j z => pG_M z))
  by_cases e4 : x = 0
  · rw [if_pos e4, if_pos e4]
    have w0 : m.1 79 0 = bI (gwin A).isSome := by rw [← gS_00]; exact (q3 0 (by omega) 0 (by omega)).1
    rw [show ldB 1458 m 79 0 = some (gwin A).isSome from ldB_n (show 0 < 1458 by omega) (by omega) w0]
    refine ⟨m, ?_, g1⟩
    cases gwin A <;> rfl
  · rw [if_neg e4, if_neg e4]
    obtain ⟨m2, u1, u2, u3⟩ := m_spreadGame (show 0 < 729 by omega) m
    rw [show M_spreadGame 0 m = some m2 from u1]
    simp only [Option.bind_some]
    have hm : MR A m := h'.tg q2 (fun a j z => Or.inl (pG_M z))
    have hm2 : MR A m2 := hm.tg u3 (fun a j e => Or.inl (Or.inr (Or.inl (by omega))))
    have g2 : ag pM μ m2 := ag_tr g1 (ag_mo u3 (fun a j e => Or.inr (Or.inl (by omega))))
    have st : ∀ k, k < A.n → M_game_s1 m2 (nI (3 ^ k), nI k) = if (gK A 0 0 k && (gS A (gt' 0 0 k) 1).isNone) = true then some (.inr (.inr (nI k, m2))) else some (.inl (nI (3 ^ (k + 1)), nI (k + 1))) := by
      intro k hk
      have c1 : M_canTake (nI k) 0 m2 = some (gK A 0 0 k) := m_canTake hm2 w u2 (show 0 < 2 by omega) hk
      unfold M_game_s1
      simp only []
      rw [hm2.hn, if_pos (nI_lt hk (by omega)), c1]
      simp only [Option.bind_some, li_3, pk_mul, li_1, nI_add]
      rw [← Nat.pow_succ]
      cases q : gK A 0 0 k
      · rfl
      · obtain ⟨t0, _⟩ := gt_f w (show 0 < 729 by omega) (show 0 < 2 by omega) q
        have ix : nI 2 * nI (3 ^ k) + nI 1 = nI (2 * gt' 0 0 k + 1) := by
          rw [pk_mul, nI_add]
          unfold gt'
          congr 1
          omega
        have := (q3 _ t0 1 (by omega)).1
        have w1 : m2.1 79 (2 * gt' 0 0 k + 1) = bI (gS A (gt' 0 0 k) 1).isSome := by rw [u3.1 79 _ (by omega)]; exact this
        simp only [li_2, if_true]
        rw [ix, ldB_n (show 2 * gt' 0 0 k + 1 < 1458 by omega) (by omega) w1]
        cases gS A (gt' 0 0 k) 1 <;> rfl
    have key := lp_fnd (step := M_game_s1 m2) (fun k => (nI (3 ^ k), nI k)) (fun f => gK A 0 0 f && (gS A (gt' 0 0 f) 1).isNone) (.inl (nI (3 ^ A.n))) (fun f => .inr (nI f, m2)) A.n (by omega) (fun k hk hq => by rw [st k hk, if_neg (by rw [hq]; decide)]) (fun k hk hq => by rw [st k hk, if_pos hq]) (by
      unfold M_game_s1
      simp only []
      rw [hm2.hn, if_neg (nI_nlt (Nat.le_refl _) (by omega))])
    have key' : lp (M_game_s1 m2) FUEL (1, 0) = _ := key
    rw [key', gwin_n w]
    refine ⟨m2, ?_, g2⟩
    cases fnd (fun f => gK A 0 0 f && (gS A (gt' 0 0 f) 1).isNone) A.n <;> rfl
theorem M_value_v {A : LV} {μ : MI} (h : MR A μ) (w : WF A) : ∃ m, M_value μ = some (if A.p < 2 then -1000000003 else iI (gld A), m) ∧ ag pM μ m := by
  have hp := w.p3
  have g0 : ag pM μ (si μ 62 10 (nI 0)) := ag_62 (by omega)
  have h' : MR A (si μ 62 10 (nI 0)) := h.agM g0
  unfold M_value
  rw [thr0]
  simp only [Option.bind_some]
  rw [h'.hp, show (2 : Int32) = nI 2 from rfl]
  by_cases e3 : A.p < 2
  · rw [if_pos (nI_lt e3 (by omega)), if_pos e3]
    exact ⟨_, rfl, g0⟩
  rw [if_neg (nI_nlt (by omega) (by omega)), if_neg e3]
  obtain ⟨m, q1, q2, q3⟩ := m_solveGame h' w
  rw [q1]
  simp only [Option.bind_some]
  have g1 : ag pM μ m := ag_tr g0 (ag_mo q2 (fun a j z => pG_M z))
  have w0 : m.1 80 0 = iI (gld A) := by
    have := (q3 0 (by omega) 0 (by omega)).2
    rw [gL_00] at this
    exact this
  rw [show ldA 1458 m 80 0 = some (iI (gld A)) from by rw [← w0]; exact ldA_n (show 0 < 1458 by omega) (by omega)]
  exact ⟨m, rfl, g1⟩
theorem a35_C {μ m : MI} (g : ag (fun a _ => a = 35) μ m) : ag pC μ m := ag_mo g (fun a j e => by unfold pC; omega)
theorem L_19 {μ : MI} (h : INV μ) (x : Int32) : ∃ μ', Lc_19 x μ = some μ' ∧ INV μ' := by
  obtain ⟨A, w, co, k1, k2⟩ := h.1
  obtain ⟨m1, e1, g1⟩ := N_game_v k1 w x
  obtain ⟨m, e, g⟩ := M_game_v (k2.agC (a35_C g1)) w x
  refine ⟨m, ?_, Lc_same h (a35_C g1) g⟩
  unfold Lc_19
  simp only [e1, Option.bind_some, e, if_true]
theorem L_20 {μ : MI} (h : INV μ) : ∃ μ', Lc_20 μ = some μ' ∧ INV μ' := by
  obtain ⟨A, w, co, k1, k2⟩ := h.1
  obtain ⟨m1, e1, g1⟩ := N_value_v k1 w
  obtain ⟨m, e, g⟩ := M_value_v (k2.agC (a35_C g1)) w
  refine ⟨m, ?_, Lc_same h (a35_C g1) g⟩
  unfold Lc_20
  simp only [e1, Option.bind_some, e, if_true]
