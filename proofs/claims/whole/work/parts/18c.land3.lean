/-! ===== land: the reference carries a statement out ===== -/
/-- what the reference has read -/
def RF (k L a b c : Nat) (m : MI) : Prop := m.1 71 k = nI L ∧ m.1 72 k = nI a ∧ m.1 73 k = (if L = 112 then iI ((b : Int) - 1) else nI b) ∧ (L = 104 → m.1 74 k = nI (c - 1)) ∧ (L = 119 → m.1 74 k = nI c)
def pRr (a j : Nat) : Prop := (a = 62 ∧ (j = 0 ∨ j = 3 ∨ j = 4 ∨ j = 5)) ∨ (63 ≤ a ∧ a ≤ 68)
theorem m_fieldComes {A : LV} {m : MI} (h : MR A m) (w : WF A) {a : Nat} (ha : a ≤ 9) : ∃ m', M_fieldComes (nI a) m = some (!(decide (a = 0 ∨ A.n = 6)), m') ∧ ag (fun x j => pRr x j ∧ x ≠ 65) m m' ∧ (¬ (a = 0 ∨ A.n = 6) → MR (A.af a) m') := by
  have hn := w.n6
  have hp := w.p3
  unfold M_fieldComes
  have c : (if nI a = 0 then some true else some (decide (m.1 62 0 = 6))) = some (decide (a = 0 ∨ A.n = 6)) := by
    rw [h.hn]
    by_cases z : a = 0
    · rw [if_pos (by rw [z]; rfl), decide_eq_true (Or.inl z)]
    · rw [if_neg (show ¬ nI a = 0 from ne_lit (k := 0) (by omega) (by omega) z)]
      congr 1
      exact decide_eq_decide.mpr (by rw [li_6, nI_eq (by omega) (by omega)]; omega)
  rw [c]
  simp only [Option.bind_some]
  by_cases z : a = 0 ∨ A.n = 6
  · rw [decide_eq_true z]
    exact ⟨m, rfl, ag_rf _ _, fun y => absurd z y⟩
  · rw [decide_eq_false z]
    have n6 : A.n < 6 := by omega
    simp only [Bool.false_eq_true, if_false]
    rw [h.hn, stA_n n6 (by omega)]
    simp only [Option.bind_some]
    rw [si_ne (by omega), h.hn, stA_n n6 (by omega)]
    simp only [Option.bind_some, stF]
    generalize hm : si (si m 63 A.n (nI a)) 68 A.n 0 = m0
    have m62 : ∀ j, m0.1 62 j = m.1 62 j := fun j => by rw [← hm, si_ne (by omega), si_ne (by omega)]
    obtain ⟨m1, u1, u2, u3, u4⟩ := lp_m (step := M_fieldComes_s1) (fun k s => ag (fun x _ => x = 64) m0 s ∧ (∀ j, j < k → s.1 64 (6 * A.n + j) = 0 ∧ s.1 64 (6 * j + A.n) = 0) ∧ ∀ x y, x < A.n → y < A.n → s.1 64 (6 * x + y) = m0.1 64 (6 * x + y)) 6 (by omega) (μ := m0) ⟨ag_rf _ _, fun q hq => absurd hq (Nat.not_lt_zero _), fun _ _ _ _ => rfl⟩ (fun k s hk ⟨v1, v2, v3⟩ => by
      have f0 : s.1 62 0 = nI A.n := by rw [v1.1 62 0 (by omega), m62]; exact h.hn
      refine ⟨si (si s 64 (6 * A.n + k) 0) 64 (6 * k + A.n) 0, ?_, ag_st (ag_st v1 rfl) rfl, fun j hj => ?_, fun x y hx hy => ?_⟩
      · unfold M_fieldComes_s1
        simp only []
        rw [if_pos (show nI k < 6 from by rw [li_6]; exact nI_lt hk (by omega)), f0]
        have z1 : stA 36 s 64 ((6 * nI A.n) + nI k) 0 = some (si s 64 (6 * A.n + k) 0) := by
          rw [li_6, pk_mul, nI_add, stA_n (by omega) (by omega)]
        rw [z1]
        simp only [Option.bind_some]
        have f1 : (si s 64 (6 * A.n + k) 0).1 62 0 = nI A.n := by rw [si_ne (by omega)]; exact f0
        have z2 : stA 36 (si s 64 (6 * A.n + k) 0) 64 ((6 * nI k) + nI A.n) 0 = some (si (si s 64 (6 * A.n + k) 0) 64 (6 * k + A.n) 0) := by
          rw [li_6, pk_mul, nI_add, stA_n (by omega) (by omega)]
        rw [f1, z2]
        simp only [Option.bind_some, li_1, nI_add]
      · constructor
        · rw [si_at, si_at]
          by_cases e1 : 6 * A.n + j = 6 * k + A.n
          · rw [if_pos e1]
          · rw [if_neg e1]
            by_cases e2 : j = k
            · rw [if_pos (by rw [e2])]
            · rw [if_neg (by omega)]; exact (v2 j (by omega)).1
        · rw [si_at, si_at]
          by_cases e1 : 6 * j + A.n = 6 * k + A.n
          · rw [if_pos e1]
          · rw [if_neg e1]
            by_cases e2 : 6 * j + A.n = 6 * A.n + k
            · rw [if_pos e2]
            · rw [if_neg e2]; exact (v2 j (by omega)).2
      · rw [si_at, if_neg (by omega), si_at, if_neg (by omega)]; exact v3 x y hx hy) (fun s _ => by
      unfold M_fieldComes_s1
      simp only []
      rw [if_neg (show ¬ nI 6 < 6 from by rw [li_6]; exact nI_nlt (Nat.le_refl _) (by omega))])
    rw [u1]
    simp only [Option.bind_some]
    obtain ⟨m2, v1, v2, v3, v4⟩ := lp_m (step := M_fieldComes_s2 (nI a)) (fun k s => ag (fun x _ => x = 67) m1 s ∧ (∀ j, j < k → s.1 67 (6 * j + A.n) = nI (10 * a)) ∧ ∀ x y, y < A.n → s.1 67 (6 * x + y) = m1.1 67 (6 * x + y)) 3 (by omega) (μ := m1) ⟨ag_rf _ _, fun q hq => absurd hq (Nat.not_lt_zero _), fun _ _ _ => rfl⟩ (fun k s hk ⟨x1, x2, x3⟩ => by
      have f0 : s.1 62 0 = nI A.n := by rw [x1.1 62 0 (by omega), u2.1 62 0 (by omega), m62]; exact h.hn
      refine ⟨si s 67 (6 * k + A.n) (nI (10 * a)), ?_, ag_st x1 rfl, fun j hj => ?_, fun x y hy => ?_⟩
      · have z1 : stA 18 s 67 ((6 * nI k) + nI A.n) (10 * nI a) = some (si s 67 (6 * k + A.n) (nI (10 * a))) := by
          rw [li_6, li_10, pk_mul, pk_mul, nI_add, stA_n (by omega) (by omega)]
        unfold M_fieldComes_s2
        simp only []
        rw [if_pos (show nI k < 3 from by rw [li_3]; exact nI_lt hk (by omega)), f0, z1]
        simp only [Option.bind_some, li_1, nI_add]
      · rw [si_at]
        by_cases e : j = k
        · rw [if_pos (by rw [e])]
        · rw [if_neg (by omega)]; exact x2 j (by omega)
      · rw [si_at, if_neg (by omega)]; exact x3 x y hy) (fun s _ => by
      unfold M_fieldComes_s2
      simp only []
      rw [if_neg (show ¬ nI 3 < 3 from by rw [li_3]; exact nI_nlt (Nat.le_refl _) (by omega))])
    rw [v1]
    simp only [Option.bind_some]
    have f0 : m2.1 62 0 = nI A.n := by rw [v2.1 62 0 (by omega), u2.1 62 0 (by omega), m62]; exact h.hn
    rw [f0]
    have e1 : nI A.n + 1 = nI (A.n + 1) := by rw [li_1, nI_add]
    rw [e1]
    have r : ∀ x j, x ≠ 64 → x ≠ 67 → m2.1 x j = m0.1 x j := fun x j q1 q2 => by rw [v2.1 x j q2, u2.1 x j q1]
    have g0 : ag (fun x j => pRr x j ∧ x ≠ 65) m m0 := by
      rw [← hm]
      exact ag_st (ag_si (by unfold pRr; omega)) (by unfold pRr; omega)
    refine ⟨_, rfl, ag_st (ag_tr g0 (ag_tr (ag_mo u2 (fun x j q => by unfold pRr; omega)) (ag_mo v2 (fun x j q => by unfold pRr; omega)))) (by unfold pRr; omega), fun _ => ?_⟩
    refine ⟨?_, ?_, ?_, ?_, fun f hf => ?_, fun f hf => ?_, fun x y hx hy => ?_, fun q hq => ?_, fun q hq => ?_, fun q f hq hf => ?_⟩
    · rw [si_at, if_pos rfl]; rfl
    · rw [si_at, if_neg (by omega), r _ _ (by omega) (by omega), m62]; exact h.hp
    · rw [si_at, if_neg (by omega), r _ _ (by omega) (by omega), m62]; exact h.hC
    · rw [si_at, if_neg (by omega), r _ _ (by omega) (by omega), m62]; exact h.hK
    · have hf : f < A.n + 1 := hf
      rw [si_ne (by omega), r _ _ (by omega) (by omega), ← hm, si_ne (by omega), si_at]
      show _ = nI (if f = A.n then a else A.ac f)
      by_cases e : f = A.n
      · rw [if_pos e, if_pos e]
      · rw [if_neg e, if_neg e]; exact h.hac (by omega)
    · have hf : f < A.n + 1 := hf
      rw [si_ne (by omega), r _ _ (by omega) (by omega), ← hm, si_at]
      show _ = nI (if f = A.n then 0 else A.ow f)
      by_cases e : f = A.n
      · rw [if_pos e, if_pos e]; rfl
      · rw [if_neg e, if_neg e, si_ne (by omega)]; exact h.how (by omega)
    · have hx : x < A.n + 1 := hx
      have hy : y < A.n + 1 := hy
      rw [si_ne (by omega), v2.1 _ _ (by omega)]
      show _ = nI (A.to x y)
      by_cases e : x = A.n
      · rw [e, (u3 y (by omega)).1, w.ou2 (Nat.le_refl _)]; rfl
      · by_cases e2 : y = A.n
        · rw [e2, (u3 x (by omega)).2, w.ou (Nat.le_refl _)]; rfl
        · rw [u4 x y (by omega) (by omega), ← hm, si_ne (by omega), si_ne (by omega)]; exact h.hto (by omega) (by omega)
    · rw [si_ne (by omega), r _ _ (by omega) (by omega), ← hm, si_ne (by omega), si_ne (by omega)]; exact h.hco hq
    · rw [si_ne (by omega), r _ _ (by omega) (by omega), ← hm, si_ne (by omega), si_ne (by omega)]; exact h.hki hq
    · have hf : f < A.n + 1 := hf
      have hq : q < A.p := hq
      rw [si_ne (by omega)]
      show _ = nI (if f = A.n then 10 * a else A.wo q f)
      by_cases e : f = A.n
      · rw [if_pos e, e]; exact v3 q (by omega)
      · rw [if_neg e, v4 q f (by omega), u2.1 67 _ (by omega), ← hm, si_ne (by omega), si_ne (by omega)]; exact h.hwo hq (by omega)
theorem m_personComes {A : LV} {m : MI} (h : MR A m) (w : WF A) {a b : Nat} (ha : a ≤ 999) (hb : b ≤ 10) : ∃ m', M_personComes (nI a) (iI ((b : Int) - 1)) m = some (!(decide (A.p < b ∨ A.p = 3)), m') ∧ ag pRr m m' ∧ (∀ x, x < 3 → 0 ≤ (m.1 65 x).toInt → 0 ≤ (m'.1 65 x).toInt) ∧ (¬ (A.p < b ∨ A.p = 3) → MR (A.ap a b) m') := by
  have hn := w.n6
  have hp := w.p3
  unfold M_personComes
  have le : (nI A.p ≤ iI ((b : Int) - 1)) = (A.p < b) := by
    rw [Int32.le_iff_toInt_le, nI_toInt (by omega), iI_toInt (by omega) (by omega)]
    apply propext; omega
  have c : (if m.1 62 5 ≤ iI ((b : Int) - 1) then some true else some (decide (m.1 62 5 = 3))) = some (decide (A.p < b ∨ A.p = 3)) := by
    rw [h.hp]
    by_cases z : A.p < b
    · rw [if_pos (le.mpr z), decide_eq_true (Or.inl z)]
    · rw [if_neg (fun q => z (le.mp q))]
      congr 1
      exact decide_eq_decide.mpr (by rw [li_3, nI_eq (by omega) (by omega)]; omega)
  rw [c]
  simp only [Option.bind_some]
  by_cases z : A.p < b ∨ A.p = 3
  · rw [decide_eq_true z]
    exact ⟨m, rfl, ag_rf _ _, fun _ _ q => q, fun y => absurd z y⟩
  · rw [decide_eq_false z]
    have p3 : A.p < 3 := by omega
    simp only [Bool.false_eq_true, if_false]
    rw [h.hp, stA_n p3 (by omega)]
    simp only [Option.bind_some]
    rw [si_ne (by omega), h.hp, stA_n p3 (by omega)]
    simp only [Option.bind_some, stF]
    generalize hm : si (si m 65 A.p (nI a)) 66 A.p (iI ((b : Int) - 1)) = m0
    have m62 : ∀ j, m0.1 62 j = m.1 62 j := fun j => by rw [← hm, si_ne (by omega), si_ne (by omega)]
    obtain ⟨m1, u1, u2, u3, u4⟩ := lp_m (step := M_personComes_s1) (fun k s => ag (fun x _ => x = 67) m0 s ∧ (∀ j, j < k → s.1 67 (6 * A.p + j) = nI (10 * A.ac j)) ∧ ∀ x y, x < A.p → y < 6 → s.1 67 (6 * x + y) = m0.1 67 (6 * x + y)) A.n (by omega) (μ := m0) ⟨ag_rf _ _, fun q hq => absurd hq (Nat.not_lt_zero _), fun _ _ _ _ => rfl⟩ (fun k s hk ⟨v1, v2, v3⟩ => by
      have f0 : s.1 62 0 = nI A.n := by rw [v1.1 62 0 (by omega), m62]; exact h.hn
      have f5 : s.1 62 5 = nI A.p := by rw [v1.1 62 5 (by omega), m62]; exact h.hp
      refine ⟨si s 67 (6 * A.p + k) (nI (10 * A.ac k)), ?_, ag_st v1 rfl, fun j hj => ?_, fun x y hx hy => ?_⟩
      · have l1 : ldA 6 s 63 (nI k) = some (nI (A.ac k)) := by
          rw [ldA_n (by omega) (by omega), v1.1 63 k (by omega), ← hm, si_ne (by omega), si_ne (by omega), h.hac hk]
        have z1 : stA 18 s 67 ((6 * nI A.p) + nI k) (10 * nI (A.ac k)) = some (si s 67 (6 * A.p + k) (nI (10 * A.ac k))) := by
          rw [li_6, li_10, pk_mul, pk_mul, nI_add, stA_n (by omega) (by omega)]
        unfold M_personComes_s1
        simp only []
        rw [f0, if_pos (nI_lt hk (by omega)), l1]
        simp only [Option.bind_some]
        rw [f5, z1]
        simp only [Option.bind_some, li_1, nI_add]
      · rw [si_at]
        by_cases e : j = k
        · rw [if_pos (by rw [e]), e]
        · rw [if_neg (by omega)]; exact v2 j (by omega)
      · rw [si_at, if_neg (by omega)]; exact v3 x y hx hy) (fun s ⟨v1, _⟩ => by
      have f0 : s.1 62 0 = nI A.n := by rw [v1.1 62 0 (by omega), m62]; exact h.hn
      unfold M_personComes_s1
      simp only []
      rw [f0, if_neg (nI_nlt (Nat.le_refl _) (by omega))])
    rw [u1]
    simp only [Option.bind_some]
    have f5 : m1.1 62 5 = nI A.p := by rw [u2.1 62 5 (by omega), m62]; exact h.hp
    rw [f5]
    have e1 : nI A.p + 1 = nI (A.p + 1) := by rw [li_1, nI_add]
    rw [e1]
    have r : ∀ x j, x ≠ 67 → m1.1 x j = m0.1 x j := fun x j q => u2.1 x j q
    have g0 : ag pRr m m0 := by
      rw [← hm]
      exact ag_st (ag_si (by unfold pRr; omega)) (by unfold pRr; omega)
    refine ⟨_, rfl, ag_st (ag_tr g0 (ag_mo u2 (fun x j q => by unfold pRr; omega))) (by unfold pRr; omega), fun x hx q => ?_, fun _ => ?_⟩
    · rw [si_ne (by omega), r _ _ (by omega), ← hm, si_ne (by omega), si_at]
      by_cases e : x = A.p
      · rw [if_pos e, nI_toInt (by omega)]; omega
      · rw [if_neg e]; exact q
    · refine ⟨?_, ?_, ?_, ?_, fun f hf => ?_, fun f hf => ?_, fun x y hx hy => ?_, fun q hq => ?_, fun q hq => ?_, fun q f hq hf => ?_⟩
      · rw [si_at, if_neg (by omega), r _ _ (by omega), m62]; exact h.hn
      · rw [si_at, if_pos rfl]; rfl
      · rw [si_at, if_neg (by omega), r _ _ (by omega), m62]; exact h.hC
      · rw [si_at, if_neg (by omega), r _ _ (by omega), m62]; exact h.hK
      · rw [si_ne (by omega), r _ _ (by omega), ← hm, si_ne (by omega), si_ne (by omega)]; exact h.hac hf
      · rw [si_ne (by omega), r _ _ (by omega), ← hm, si_ne (by omega), si_ne (by omega)]; exact h.how hf
      · rw [si_ne (by omega), r _ _ (by omega), ← hm, si_ne (by omega), si_ne (by omega)]; exact h.hto hx hy
      · have hq : q < A.p + 1 := hq
        rw [si_ne (by omega), r _ _ (by omega), ← hm, si_ne (by omega), si_at]
        show _ = iI (if q = A.p then (a : Int) else A.co q)
        by_cases e : q = A.p
        · rw [if_pos e, if_pos e, iI_nat]
        · rw [if_neg e, if_neg e]; exact h.hco (by omega)
      · have hq : q < A.p + 1 := hq
        rw [si_ne (by omega), r _ _ (by omega), ← hm, si_at]
        show _ = iI (((if q = A.p then b else A.ki q : Nat) : Int) - 1)
        by_cases e : q = A.p
        · rw [if_pos e, if_pos e]
        · rw [if_neg e, if_neg e, si_ne (by omega)]; exact h.hki (by omega)
      · have hf : f < A.n := hf
        have hq : q < A.p + 1 := hq
        rw [si_ne (by omega)]
        show _ = nI (if q = A.p then 10 * A.ac f else A.wo q f)
        by_cases e : q = A.p
        · rw [if_pos e, e]; exact u3 f hf
        · rw [if_neg e, u4 q f (by omega) (by omega), ← hm, si_ne (by omega), si_ne (by omega)]; exact h.hwo (by omega) hf
