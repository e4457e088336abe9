/-! ===== frees ===== -/
theorem CR.back {t A μ} {a b v : Nat} (h : CR t (A.stt a b v) μ) (w : WF A) (ha : a < 6) (hb : b < 6) : CR t A (si (si μ (t + 3) (a * 6 + b) (nI (A.to a b))) (t + 3) (b * 6 + a) (nI (A.to a b))) := by
  have z : ∀ c, c ≠ t + 3 → (si (si μ (t + 3) (a * 6 + b) (nI (A.to a b))) (t + 3) (b * 6 + a) (nI (A.to a b))).1 c = μ.1 c := fun c hc => by rw [si_ne hc, si_ne hc]
  unfold CR
  rw [z t (by omega), z (t + 1) (by omega), z (t + 2) (by omega), z (t + 4) (by omega), z (t + 5) (by omega), z (t + 6) (by omega)]
  refine ⟨h.1, h.2.1, h.2.2.1, h.2.2.2.1, h.2.2.2.2.1, h.2.2.2.2.2.1, fun x y hx hy => ?_, h.2.2.2.2.2.2.2⟩
  rw [si_at]
  by_cases g1 : x = b ∧ y = a
  · rw [if_pos (by omega), g1.1, g1.2, w.sy]
  · rw [if_neg (by omega), si_at]
    by_cases g2 : x = a ∧ y = b
    · rw [if_pos (by omega), g2.1, g2.2]
    · rw [if_neg (by omega)]
      have := h.hto (a := x) (b := y) hx hy
      rw [this]
      show nI (if (x = a ∧ y = b) ∨ (x = b ∧ y = a) then v else A.to x y) = _
      rw [if_neg (by omega)]
/-- the best worth of a land -/
def BW (A : LV) : Nat := (mxx (bO A false) (bV A) ((A.p + 1) ^ A.n)).elim 0 (bV A)
theorem BW_lt {A : LV} (w : WF A) : BW A ≤ 594 := by
  obtain ⟨j, hj⟩ := best_ex (A := A)
  unfold BW
  rw [hj]
  exact vv_lt w (fun g _ => pfx_p _ _ _)
theorem c_BW {A : LV} {μ : MI} {t : Nat} (h : CR t A μ) (w : WF A) (ht : t + 6 < 24) : ∃ μ', Sharing_search t false μ = some μ' ∧ μ'.1 24 0 = nI (BW A) ∧ ag (fun a _ => 24 ≤ a ∧ a ≤ 27) μ μ' := by
  obtain ⟨j, hj⟩ := best_ex (A := A)
  obtain ⟨m, e1, e2, e3⟩ := c_search h w ht false
  refine ⟨m, e1, ?_, e3⟩
  rw [e2.1]
  unfold BW
  rw [hj]; rfl
theorem m_BW {A : LV} {μ : MI} (h : MR A μ) (w : WF A) : ∃ μ', M_findBest false μ = some μ' ∧ μ'.1 62 30 = nI (BW A) ∧ ag pB μ μ' := by
  obtain ⟨j, hj⟩ := best_ex (A := A)
  obtain ⟨m, e1, e2, e3⟩ := m_findBest h w false
  refine ⟨m, e1, ?_, e3⟩
  rw [e2.2]
  unfold BW
  rw [hj]; rfl
def stp (A : LV) (a b : Nat) (s : Nat × Int32) : Nat × Int32 := if A.to a b = 1 then (max s.1 (BW (A.stt a b 2)), if s.1 < BW (A.stt a b 2) then nI (10 * a + b) else s.2) else s
def fin_ (A : LV) (a : Nat) (s : Nat × Int32) : Nat → Nat × Int32
  | 0 => s
  | j + 1 => stp A a (a + 1 + j) (fin_ A a s j)
def fou (A : LV) : Nat → Nat × Int32
  | 0 => (BW A, -4)
  | a + 1 => fin_ A a (fou A a) (A.n - (a + 1))
theorem stp_lt {A : LV} (w : WF A) {a b : Nat} (ha : a < A.n) (hb : b < A.n) (hab : a ≠ b) {s : Nat × Int32} (h : s.1 ≤ 594) : (stp A a b s).1 ≤ 594 := by
  unfold stp
  split
  · have := BW_lt (w.stt (h := 2) ha hb hab (by omega))
    show max s.1 _ ≤ 594
    omega
  · exact h
theorem fin_lt {A : LV} (w : WF A) {a : Nat} (ha : a < A.n) {s : Nat × Int32} (h : s.1 ≤ 594) : ∀ j, j ≤ A.n - (a + 1) → (fin_ A a s j).1 ≤ 594
  | 0, _ => h
  | j + 1, hj => stp_lt w ha (by omega) (by omega) (fin_lt w ha h j (by omega))
theorem fou_lt {A : LV} (w : WF A) : ∀ a, a ≤ A.n → (fou A a).1 ≤ 594
  | 0, _ => BW_lt w
  | a + 1, h => fin_lt w (by omega) (fou_lt w a (by omega)) _ (Nat.le_refl _)
theorem c_frees2 {A : LV} {μ : MI} (w : WF A) {a : Nat} (ha : a < A.n) (s : Nat × Int32) (hs : s.1 ≤ 594) {m0 : MI} (h : CR 8 A m0) (g0 : ag pC μ m0) : ∃ m, lp (N_frees_s2 (nI a)) FUEL (nI s.1, s.2, nI (a + 1), m0) = some (nI (fin_ A a s (A.n - (a + 1))).1, (fin_ A a s (A.n - (a + 1))).2, m) ∧ CR 8 A m ∧ ag pC μ m := by
  have hn := w.n6
  obtain ⟨o, q1, q2, q3, q4, q5⟩ := lp_inv (step := N_frees_s2 (nI a)) (s := (nI s.1, s.2, nI (a + 1), m0)) (fun j t => t.1 = nI (fin_ A a s j).1 ∧ t.2.1 = (fin_ A a s j).2 ∧ t.2.2.1 = nI (a + 1 + j) ∧ CR 8 A t.2.2.2 ∧ ag pC μ t.2.2.2) (fun o => o.1 = nI (fin_ A a s (A.n - (a + 1))).1 ∧ o.2.1 = (fin_ A a s (A.n - (a + 1))).2 ∧ CR 8 A o.2.2 ∧ ag pC μ o.2.2) (A.n - (a + 1)) (by omega) ⟨rfl, rfl, rfl, h, g0⟩ (by
      rintro j ⟨mo, an, i, m⟩ hj ⟨t1, t2, t3, t4, t5⟩
      simp only at t1 t2 t3 t4 t5; subst t3; subst t2; subst t1
      refine Or.inl ?_
      have hb : a + 1 + j < A.n := by omega
      have l1 := fin_lt w ha hs j (by omega)
      have t3' := w.t3 a (a + 1 + j)
      have ef : fin_ A a s (j + 1) = stp A a (a + 1 + j) (fin_ A a s j) := rfl
      rw [ef]
      generalize hb' : a + 1 + j = b at hb t3'
      have hab : a ≠ b := by omega
      have eb : a + 1 + (j + 1) = b + 1 := by omega
      rw [eb]
      have to := c_touchOf t4 w ha hb
      unfold N_frees_s2
      simp only []
      rw [t4.hn, if_pos (nI_lt hb (by omega)), to]
      simp only [Option.bind_some]
      unfold stp
      by_cases e : A.to a b = 1
      · rw [if_pos (show nI (A.to a b) = 1 from by rw [e]; rfl), if_pos e]
        unfold N_worthWithLane
        have w2 := w.stt (h := 2) ha hb hab (by omega)
        have h2 := t4.stt (v := 2) (show a < 6 by omega) (show b < 6 by omega)
        have st := c_setTouch (v := 2) t4 w ha hb hab
        have g2 : ag pC μ (si (si m (8 + 3) (a * 6 + b) (nI 2)) (8 + 3) (b * 6 + a) (nI 2)) := ag_st (ag_st t5 (Or.inl (by omega))) (Or.inl (by omega))
        rw [show (2 : Int32) = nI 2 from rfl, st]
        simp only [Option.bind_some]
        obtain ⟨u, u1, u2, u3⟩ := c_BW h2 w2 (by omega)
        have hu : CR 8 (A.stt a b 2) u := h2.tg u3 (fun a j z1 z2 z3 => by omega)
        have st2 := c_setTouch (v := 1) hu w2 (a := a) (b := b) ha hb hab
        have hk := hu.back w (show a < 6 by omega) (show b < 6 by omega)
        rw [e] at hk
        have e24 : (si (si u (8 + 3) (a * 6 + b) (nI 1)) (8 + 3) (b * 6 + a) (nI 1)).1 24 0 = nI (BW (A.stt a b 2)) := by rw [si_v, if_neg (by omega), si_v, if_neg (by omega)]; exact u2
        rw [u1]
        simp only [Option.bind_some]
        rw [show (1 : Int32) = nI 1 from rfl, st2]
        have bl := BW_lt w2
        simp only [Option.bind_some, e24, mx_n (show (fin_ A a s j).1 < 2 ^ 31 by omega) (show BW (A.stt a b 2) < 2 ^ 31 by omega), li_10, pk_mul, nI_add]
        have ex : (if nI (fin_ A a s j).1 < nI (BW (A.stt a b 2)) then some (nI (10 * a + b)) else some (fin_ A a s j).2) = some (if (fin_ A a s j).1 < BW (A.stt a b 2) then nI (10 * a + b) else (fin_ A a s j).2) := by
          by_cases g : (fin_ A a s j).1 < BW (A.stt a b 2)
          · rw [if_pos (nI_lt g (by omega)), if_pos g]
          · rw [if_neg (nI_nlt (by omega) (by omega)), if_neg g]
        rw [ex]
        simp only [Option.bind_some]
        exact ⟨_, rfl, rfl, rfl, rfl, hk, ag_st (ag_st (ag_tr g2 (ag_mo u3 (fun a j q => Or.inr (by omega)))) (Or.inl (by omega))) (Or.inl (by omega))⟩
      · rw [if_neg (show ¬ nI (A.to a b) = 1 from by rw [li_1, nI_eq (by omega) (by omega)]; exact e), if_neg e]
        simp only [Option.bind_some, li_1, nI_add]
        exact ⟨_, rfl, rfl, rfl, rfl, t4, t5⟩) (by
      rintro ⟨mo, an, i, m⟩ ⟨t1, t2, t3, t4, t5⟩
      simp only at t1 t2 t3 t4 t5; subst t3; subst t2; subst t1
      refine ⟨(nI (fin_ A a s (A.n - (a + 1))).1, (fin_ A a s (A.n - (a + 1))).2, m), ?_, rfl, rfl, t4, t5⟩
      simp only [N_frees_s2, t4.hn, if_neg (nI_nlt (show A.n ≤ a + 1 + (A.n - (a + 1)) by omega) (show a + 1 + (A.n - (a + 1)) < 2 ^ 31 by omega))])
  obtain ⟨o1, o2, m⟩ := o
  simp only at q2 q3 q4 q5
  subst q2; subst q3
  exact ⟨m, q1, q4, q5⟩
theorem N_frees_v {A : LV} {μ : MI} (h : CR 1 A μ) (w : WF A) : ∃ m, N_frees μ = some ((fou A A.n).2, m) ∧ ag pC μ m := by
  have hn := w.n6
  unfold N_frees
  obtain ⟨m0, c1, c2, c3⟩ := c_copyFrom (t := 8) (o := 1) h w (by omega)
  have g0 : ag pC μ m0 := ag_mo c3 (fun a j q => Or.inl q)
  obtain ⟨m1, u1, u2, u3⟩ := c_BW c2 w (by omega)
  have h1 : CR 8 A m1 := c2.tg u3 (fun a j z1 z2 z3 => by omega)
  have g1 : ag pC μ m1 := ag_tr g0 (ag_mo u3 (fun a j q => Or.inr (by omega)))
  rw [c1]
  simp only [Option.bind_some, u1, u2]
  obtain ⟨o, q1, q2, q3, q4⟩ := lp_inv (step := N_frees_s1) (s := (nI (BW A), -4, 0, m1)) (fun a t => t.1 = nI (fou A a).1 ∧ t.2.1 = (fou A a).2 ∧ t.2.2.1 = nI a ∧ CR 8 A t.2.2.2 ∧ ag pC μ t.2.2.2) (fun o => o.2.1 = (fou A A.n).2 ∧ CR 8 A o.2.2 ∧ ag pC μ o.2.2) A.n (by omega) ⟨rfl, rfl, rfl, h1, g1⟩ (by
      rintro a ⟨mo, an, i, m⟩ ha ⟨t1, t2, t3, t4, t5⟩
      simp only at t1 t2 t3 t4 t5; subst t3; subst t2; subst t1
      refine Or.inl ?_
      obtain ⟨m', e1, e2, e3⟩ := c_frees2 w ha (fou A a) (fou_lt w a (by omega)) t4 t5
      unfold N_frees_s1
      simp only []
      rw [t4.hn, if_pos (nI_lt ha (by omega)), show nI a + 1 = nI (a + 1) from by rw [li_1, nI_add]]
      simp only [Option.bind_some, e1]
      exact ⟨_, rfl, rfl, rfl, rfl, e2, e3⟩) (by
      rintro ⟨mo, an, i, m⟩ ⟨t1, t2, t3, t4, t5⟩
      simp only at t1 t2 t3 t4 t5; subst t3; subst t2; subst t1
      refine ⟨(nI (fou A A.n).1, (fou A A.n).2, m), ?_, rfl, t4, t5⟩
      simp only [N_frees_s1, t4.hn, if_neg (nI_nlt (Nat.le_refl A.n) (show A.n < 2 ^ 31 by omega))])
  obtain ⟨o1, o2, m⟩ := o
  simp only at q2 q3 q4
  subst q2
  rw [q1]
  exact ⟨m, rfl, q4⟩
theorem m_frees2 {A : LV} {μ : MI} (w : WF A) {a : Nat} (ha : a < A.n) (s : Nat × Int32) (hs : s.1 ≤ 594) {m0 : MI} (h : MR A m0) (g0 : ag pR μ m0) : ∃ m, lp (M_frees_s2 (nI a)) FUEL (nI s.1, s.2, nI (a + 1), m0) = some (nI (fin_ A a s (A.n - (a + 1))).1, (fin_ A a s (A.n - (a + 1))).2, m) ∧ MR A m ∧ ag pR μ m := by
  have hn := w.n6
  obtain ⟨o, q1, q2, q3, q4, q5⟩ := lp_inv (step := M_frees_s2 (nI a)) (s := (nI s.1, s.2, nI (a + 1), m0)) (fun j t => t.1 = nI (fin_ A a s j).1 ∧ t.2.1 = (fin_ A a s j).2 ∧ t.2.2.1 = nI (a + 1 + j) ∧ MR A t.2.2.2 ∧ ag pR μ t.2.2.2) (fun o => o.1 = nI (fin_ A a s (A.n - (a + 1))).1 ∧ o.2.1 = (fin_ A a s (A.n - (a + 1))).2 ∧ MR A o.2.2 ∧ ag pR μ o.2.2) (A.n - (a + 1)) (by omega) ⟨rfl, rfl, rfl, h, g0⟩ (by
      rintro j ⟨mo, an, i, m⟩ hj ⟨t1, t2, t3, t4, t5⟩
      simp only at t1 t2 t3 t4 t5; subst t3; subst t2; subst t1
      refine Or.inl ?_
      have hb : a + 1 + j < A.n := by omega
      have l1 := fin_lt w ha hs j (by omega)
      have t3' := w.t3 a (a + 1 + j)
      have ef : fin_ A a s (j + 1) = stp A a (a + 1 + j) (fin_ A a s j) := rfl
      rw [ef]
      generalize hb' : a + 1 + j = b at hb t3'
      have hab : a ≠ b := by omega
      have eb : a + 1 + (j + 1) = b + 1 := by omega
      rw [eb]
      unfold M_frees_s2
      simp only []
      rw [t4.hn, if_pos (nI_lt hb (by omega)), li_6, pk_mul, nI_add, ldA_n (show 6 * a + b < 36 by omega) (by omega), t4.hto ha hb]
      simp only [Option.bind_some]
      unfold stp
      by_cases e : A.to a b = 1
      · rw [if_pos (show nI (A.to a b) = 1 from by rw [e]; rfl), if_pos e]
        have w2 := w.stt (h := 2) ha hb hab (by omega)
        have h2 := t4.stt w (v := 2) ha hb
        have g2 : ag pR μ (si (si m 64 (6 * a + b) (nI 2)) 64 (6 * b + a) (nI 2)) := ag_st (ag_st t5 (Or.inr (by omega))) (Or.inr (by omega))
        obtain ⟨u, u1, u2, u3⟩ := m_BW h2 w2
        have hu : MR (A.stt a b 2) u := h2.tg u3 (fun a j q => Or.inl (pB_M q))
        have hk := hu.back w ha hb
        rw [e] at hk
        have e30 : (si (si u 64 (6 * a + b) (nI 1)) 64 (6 * b + a) (nI 1)).1 62 30 = nI (BW (A.stt a b 2)) := by rw [si_v, if_neg (by omega), si_v, if_neg (by omega)]; exact u2
        have bl := BW_lt w2
        simp only [li_1, li_2, pk_mul, nI_add, stA_n (show 6 * a + b < 36 by omega) (show 36 ≤ 5000 by omega), stA_n (show 6 * b + a < 36 by omega) (show 36 ≤ 5000 by omega), Option.bind_some, u1, e30, li_10]
        have mxe : ∀ g : (fin_ A a s j).1 < BW (A.stt a b 2), max (fin_ A a s j).1 (BW (A.stt a b 2)) = BW (A.stt a b 2) := fun g => by omega
        by_cases g : (fin_ A a s j).1 < BW (A.stt a b 2)
        · rw [if_pos (nI_lt g (by omega))]
          simp only [Option.bind_some]
          exact ⟨_, rfl, by rw [mxe g], by rw [if_pos g], rfl, hk, ag_st (ag_st (ag_tr g2 (ag_mo u3 (fun a j q => Or.inl (pB_M q)))) (Or.inr (by omega))) (Or.inr (by omega))⟩
        · rw [if_neg (nI_nlt (by omega) (by omega))]
          simp only [Option.bind_some]
          exact ⟨_, rfl, by rw [show max (fin_ A a s j).1 (BW (A.stt a b 2)) = (fin_ A a s j).1 by omega], by rw [if_neg g], rfl, hk, ag_st (ag_st (ag_tr g2 (ag_mo u3 (fun a j q => Or.inl (pB_M q)))) (Or.inr (by omega))) (Or.inr (by omega))⟩
      · rw [if_neg (show ¬ nI (A.to a b) = 1 from by rw [li_1, nI_eq (by omega) (by omega)]; exact e), if_neg e]
        simp only [Option.bind_some, li_1, nI_add]
        exact ⟨_, rfl, rfl, rfl, rfl, t4, t5⟩) (by
      rintro ⟨mo, an, i, m⟩ ⟨t1, t2, t3, t4, t5⟩
      simp only at t1 t2 t3 t4 t5; subst t3; subst t2; subst t1
      refine ⟨(nI (fin_ A a s (A.n - (a + 1))).1, (fin_ A a s (A.n - (a + 1))).2, m), ?_, rfl, rfl, t4, t5⟩
      simp only [M_frees_s2, t4.hn, if_neg (nI_nlt (show A.n ≤ a + 1 + (A.n - (a + 1)) by omega) (show a + 1 + (A.n - (a + 1)) < 2 ^ 31 by omega))])
  obtain ⟨o1, o2, m⟩ := o
  simp only at q2 q3 q4 q5
  subst q2; subst q3
  exact ⟨m, q1, q4, q5⟩
theorem M_frees_v {A : LV} {μ : MI} (h : MR A μ) (w : WF A) : ∃ m, M_frees μ = some ((fou A A.n).2, m) ∧ MR A m ∧ ag pR μ m := by
  have hn := w.n6
  unfold M_frees
  have g0 : ag pR μ (si μ 62 10 (nI 0)) := ag_mo (ag_62 (by omega)) (fun _ _ q => Or.inl q)
  have h' : MR A (si μ 62 10 (nI 0)) := h.agM (ag_62 (by omega))
  obtain ⟨m1, u1, u2, u3⟩ := m_BW h' w
  have h1 : MR A m1 := h'.tg u3 (fun a j q => Or.inl (pB_M q))
  have g1 : ag pR μ m1 := ag_tr g0 (ag_mo u3 (fun a j q => Or.inl (pB_M q)))
  rw [thr0]
  simp only [Option.bind_some, u1, u2]
  obtain ⟨o, q1, q2, q3, q4⟩ := lp_inv (step := M_frees_s1) (s := (nI (BW A), -4, 0, m1)) (fun a t => t.1 = nI (fou A a).1 ∧ t.2.1 = (fou A a).2 ∧ t.2.2.1 = nI a ∧ MR A t.2.2.2 ∧ ag pR μ t.2.2.2) (fun o => o.2.1 = (fou A A.n).2 ∧ MR A o.2.2 ∧ ag pR μ o.2.2) A.n (by omega) ⟨rfl, rfl, rfl, h1, g1⟩ (by
      rintro a ⟨mo, an, i, m⟩ ha ⟨t1, t2, t3, t4, t5⟩
      simp only at t1 t2 t3 t4 t5; subst t3; subst t2; subst t1
      refine Or.inl ?_
      obtain ⟨m', e1, e2, e3⟩ := m_frees2 w ha (fou A a) (fou_lt w a (by omega)) t4 t5
      unfold M_frees_s1
      simp only []
      rw [t4.hn, if_pos (nI_lt ha (by omega)), show nI a + 1 = nI (a + 1) from by rw [li_1, nI_add]]
      simp only [Option.bind_some, e1]
      exact ⟨_, rfl, rfl, rfl, rfl, e2, e3⟩) (by
      rintro ⟨mo, an, i, m⟩ ⟨t1, t2, t3, t4, t5⟩
      simp only at t1 t2 t3 t4 t5; subst t3; subst t2; subst t1
      refine ⟨(nI (fou A A.n).1, (fou A A.n).2, m), ?_, rfl, t4, t5⟩
      simp only [M_frees_s1, t4.hn, if_neg (nI_nlt (Nat.le_refl A.n) (show A.n < 2 ^ 31 by omega))])
  obtain ⟨o1, o2, m⟩ := o
  simp only at q2 q3 q4
  subst q2
  rw [q1]
  exact ⟨m, rfl, q3, q4⟩
theorem L_18 {μ : MI} (h : INV μ) : ∃ μ', Lc_18 μ = some μ' ∧ INV μ' := by
  obtain ⟨A, w, co, k1, k2⟩ := h.1
  obtain ⟨m1, e1, g1⟩ := N_frees_v k1 w
  obtain ⟨m, e, c2, g⟩ := M_frees_v (k2.agC g1) w
  refine ⟨m, ?_, h.both (ag_mo g1 (fun _ _ q => Or.inl q)) g w co (k1.tg g1 (fun a j h1 h2 q => by unfold pC at q; omega)) c2⟩
  unfold Lc_18
  simp only [e1, Option.bind_some, e, if_true]
