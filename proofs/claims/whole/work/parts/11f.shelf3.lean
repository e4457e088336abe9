theorem rng_in {x : Int32} {n N : Nat} (hn : n ≤ N) (hN : N < 2 ^ 31) : (if (0 : Int32) ≤ x then (if x < nI n then some (decide (x < nI N)) else some false) else some false) = some (inR x n) := by
  unfold inR
  have e1 : ((0 : Int32) ≤ x) = (0 ≤ x.toInt) := by rw [Int32.le_iff_toInt_le]; rfl
  have e2 : (x < nI n) = (x.toInt < (n : Int)) := by rw [Int32.lt_iff_toInt_lt, nI_toInt (by omega)]
  have e3 : (x < nI N) = (x.toInt < (N : Int)) := by rw [Int32.lt_iff_toInt_lt, nI_toInt (by omega)]
  simp only [e1, e2, e3]
  by_cases h1 : 0 ≤ x.toInt
  · by_cases h2 : x.toInt < (n : Int)
    · simp only [if_pos h1, if_pos h2]; congr 1; apply decide_eq_decide.mpr; omega
    · simp only [if_pos h1, if_neg h2]; congr 1; symm; apply decide_eq_false; omega
  · simp only [if_neg h1]; congr 1; symm; apply decide_eq_false; omega
theorem c_isPlace {s z : Nat} {μ : MI} (e : μ.1 s 2 = nI z) (hz : z ≤ 100) (x : Int32) : Shelf_isPlace s x μ = some (inR x z) := by
  unfold Shelf_isPlace
  rw [e]
  have := rng_in (x := x) (n := z) (N := 100) hz (by omega)
  rw [show (nI 100 : Int32) = 100 from rfl] at this
  rw [this]; rfl
theorem c_at {s z : Nat} {μ : MI} (e : μ.1 s 2 = nI z) (hz : z ≤ 100) (x : Int32) : Shelf_at s x μ = some (if inR x z = true then μ.1 (s + 2) x.toNatClampNeg else 0) := by
  unfold Shelf_at
  rw [e]
  have := rng_in (x := x) (n := z) (N := 100) hz (by omega)
  rw [show (nI 100 : Int32) = 100 from rfl] at this
  rw [this]
  cases h : inR x z
  · rfl
  · obtain ⟨i, hi, rfl⟩ := inR_t h
    simp only [Option.bind_some, Option.bind_none, if_true, if_false, ite_true, ite_false, Bool.false_eq_true, Bool.true_eq_false, Bool.not_true, Bool.not_false, decide_true, decide_false, decide_eq_true_eq, Sum.elim_inl, Sum.elim_inr, ne_eq, not_true, not_false_iff, reduceIte, reduceCtorEq, Bool.cond_true, Bool.cond_false, ldA_n (show i < 100 by omega) (show 100 ≤ 5000 by omega), nI_clamp (show i < 2 ^ 31 by omega)]
def nar (s : Nat) (v : Int32) : Int32 := if s = 0 then v.toInt8.toInt32 else if s = 1 then v.toInt16.toInt32 else v
theorem narB (v : Int32) : -128 ≤ (nar 0 v).toInt ∧ (nar 0 v).toInt ≤ 127 := by
  have e : nar 0 v = v.toInt8.toInt32 := rfl
  rw [e, Int8.toInt_toInt32]
  have h1 := BitVec.le_toInt v.toInt8.toBitVec
  have h2 := BitVec.toInt_lt (x := v.toInt8.toBitVec)
  have h3 : v.toInt8.toInt = v.toInt8.toBitVec.toInt := rfl
  omega
theorem L_28 {μ : MI} (h : INV μ) (x y v : Int32) : ∃ μ', Lc_28 x y v μ = some μ' ∧ INV μ' := by
  have g0 : INV (si μ 62 10 (nI 0)) := Lc_same h (ag_rf _ _) (ag_62 (by omega))
  unfold Lc_28 N_put M_put
  simp only [thr0, Option.bind_some]
  cases hx : inR x 8
  · rw [sh_no hx]
    simp only [onN_0, Option.bind_some, Option.bind_none, if_true, if_false, ite_true, ite_false, Bool.false_eq_true, Bool.true_eq_false, Bool.not_true, Bool.not_false, decide_true, decide_false, decide_eq_true_eq, Sum.elim_inl, Sum.elim_inr, ne_eq, not_true, not_false_iff, reduceIte, reduceCtorEq, Bool.cond_true, Bool.cond_false, m_wrongRow_no hx]
    exact ⟨_, rfl, g0⟩
  obtain ⟨d, hd, rfl⟩ := inR_t hx
  obtain ⟨q, q1, q2, q3, q4, q5⟩ := h.2.2 d hd
  rw [sh_yes hd]
  simp only [onN_1, li_2, c_refusal q2 q1 (show 2 ≤ 2 by omega), Option.bind_some]
  by_cases e2 : q = 2
  · subst e2
    obtain ⟨s, z, s1, z1, k1, k2, k3, k4, k5, k6⟩ := q5 rfl
    have hr : rk 2 2 = 0 := rfl
    have es : Shelf_set (38 + 3 * d) y v μ = some (if inR y z = true then (true, si μ (38 + 3 * d + 2) y.toNatClampNeg (nar s v)) else (false, μ)) := by
      unfold Shelf_set
      rw [c_isPlace k3 z1, k1]
      cases hy : inR y z
      · rfl
      · obtain ⟨i, hi, rfl⟩ := inR_t hy
        simp only [Option.bind_some, Option.bind_none, if_true, if_false, ite_true, ite_false, Bool.false_eq_true, Bool.true_eq_false, Bool.not_true, Bool.not_false, decide_true, decide_false, decide_eq_true_eq, Sum.elim_inl, Sum.elim_inr, ne_eq, not_true, not_false_iff, reduceIte, reduceCtorEq, Bool.cond_true, Bool.cond_false, stA_n (show i < 100 by omega) (show 100 ≤ 5000 by omega), nI_clamp (show i < 2 ^ 31 by omega)]
        rcases (by omega : s = 0 ∨ s = 1 ∨ s = 2) with rfl | rfl | rfl <;> rfl
    have em : M_narrowed v (nI s) = some (nar s v).toInt64 := by
      unfold M_narrowed
      rcases (by omega : s = 0 ∨ s = 1 ∨ s = 2) with rfl | rfl | rfl <;> rfl
    simp only [hr, es, Option.bind_some, Option.bind_none, if_true, if_false, ite_true, ite_false, Bool.false_eq_true, Bool.true_eq_false, Bool.not_true, Bool.not_false, decide_true, decide_false, decide_eq_true_eq, Sum.elim_inl, Sum.elim_inr, ne_eq, not_true, not_false_iff, reduceIte, reduceCtorEq, Bool.cond_true, Bool.cond_false]
    cases hy : inR y z
    · have w1 : M_wrongRow (nI d) (si μ 62 10 (nI 0)) = some (rk 2 2) := m_wrongRow hd (by rw [si_ne (by omega)]; exact q3) (by omega)
      have w2 : (si μ 62 10 (nI 0)).1 89 d = nI z := by rw [si_ne (by omega)]; exact k4
      simp only [Option.bind_some, Option.bind_none, if_true, if_false, ite_true, ite_false, Bool.false_eq_true, Bool.true_eq_false, Bool.not_true, Bool.not_false, decide_true, decide_false, decide_eq_true_eq, Sum.elim_inl, Sum.elim_inr, ne_eq, not_true, not_false_iff, reduceIte, reduceCtorEq, Bool.cond_true, Bool.cond_false, w1, hr, ldA_n hd (show 8 ≤ 5000 by omega), w2, M_in_n y (show z < 2 ^ 30 by omega), hy, show ((0 : Int32) < 0) = False from by decide]
      exact ⟨_, rfl, g0⟩
    · obtain ⟨i, hi, rfl⟩ := inR_t hy
      have w1 : M_wrongRow (nI d) (si (si μ (38 + 3 * d + 2) i (nar s v)) 62 10 (nI 0)) = some (rk 2 2) := m_wrongRow hd (by rw [si_ne (by omega), si_ne (by omega)]; exact q3) (by omega)
      have w2 : (si (si μ (38 + 3 * d + 2) i (nar s v)) 62 10 (nI 0)).1 89 d = nI z := by rw [si_ne (by omega), si_ne (by omega)]; exact k4
      have w3 : (si (si μ (38 + 3 * d + 2) i (nar s v)) 62 10 (nI 0)).1 88 d = nI s := by rw [si_ne (by omega), si_ne (by omega)]; exact k2
      simp only [Option.bind_some, Option.bind_none, if_true, if_false, ite_true, ite_false, Bool.false_eq_true, Bool.true_eq_false, Bool.not_true, Bool.not_false, decide_true, decide_false, decide_eq_true_eq, Sum.elim_inl, Sum.elim_inr, ne_eq, not_true, not_false_iff, reduceIte, reduceCtorEq, Bool.cond_true, Bool.cond_false, w1, hr, ldA_n hd (show 8 ≤ 5000 by omega), w2, w3, M_in_n (nI i) (show z < 2 ^ 30 by omega), hy, show ((0 : Int32) < 0) = False from by decide, em, li_100, pk_mul, nI_add, stL_n (show 100 * d + i < 800 by omega) (show 800 ≤ 5000 by omega), nI_clamp (show i < 2 ^ 31 by omega)]
      have e40 : 40 + 3 * d = 38 + 3 * d + 2 := by omega
      refine ⟨_, rfl, h.sh1 hd (fun a j q => ?_) (fun k hk => ?_) ⟨2, by omega, ?_, ?_, fun e => by omega, fun e => ⟨s, z, s1, z1, ?_, ?_, ?_, ?_, fun k hk => ?_, fun hs k hk => ?_⟩⟩⟩
      · unfold pD at q
        rw [sl_1, si_v, if_neg (by omega), si_v, if_neg (by omega)]
      · rw [sl_v, if_neg (by omega)]; rfl
      · rw [sl_1, si_v, if_neg (by omega), si_v, if_neg (by omega)]; exact q2
      · rw [sl_1, si_v, if_neg (by omega), si_v, if_neg (by omega)]; exact q3
      · rw [sl_1, si_v, if_neg (by omega), si_v, if_neg (by omega)]; exact k1
      · rw [sl_1, si_v, if_neg (by omega), si_v, if_neg (by omega)]; exact k2
      · rw [sl_1, si_v, if_neg (by omega), si_v, if_neg (by omega)]; exact k3
      · rw [sl_1, si_v, if_neg (by omega), si_v, if_neg (by omega)]; exact k4
      · rw [sl_1, si_v, if_neg (by omega), e40, sl_v]
        by_cases e : k = i
        · rw [if_pos (by omega), si_v, if_pos ⟨rfl, e⟩]
        · rw [if_neg (by omega), si_v, if_neg (by omega), si_2, si_2, k5 k hk, e40]
      · rw [sl_1, si_v, if_neg (by omega), e40]
        by_cases e : k = i
        · rw [si_v, if_pos ⟨rfl, e⟩, hs]; exact narB v
        · rw [si_v, if_neg (by omega), ← e40]; exact k6 hs k hk
  · have hr : rk q 2 ≠ 0 ∧ rk q 2 < 0 := by
      rcases (by omega : q = 0 ∨ q = 1) with rfl | rfl <;> exact ⟨by decide, by decide⟩
    have w1 : M_wrongRow (nI d) (si μ 62 10 (nI 0)) = some (rk q 2) := m_wrongRow hd (by rw [si_ne (by omega)]; exact q3) (by omega)
    simp only [if_pos hr.1, if_pos hr.2, Option.bind_some, Option.bind_none, if_true, if_false, ite_true, ite_false, Bool.false_eq_true, Bool.true_eq_false, Bool.not_true, Bool.not_false, decide_true, decide_false, decide_eq_true_eq, Sum.elim_inl, Sum.elim_inr, ne_eq, not_true, not_false_iff, reduceIte, reduceCtorEq, Bool.cond_true, Bool.cond_false, w1]
    exact ⟨_, rfl, g0⟩
theorem L_29 {μ : MI} (h : INV μ) (x y : Int32) : ∃ μ', Lc_29 x y μ = some μ' ∧ INV μ' := by
  have fin : ∀ (m : MI) (t : Int32), (m = μ ∨ ∃ w, m = sl μ 92 0 w) → INV (si m 62 10 t) := fun m t hm => by
    refine h.shelf (fun a j q => ?_) fun d hd => (h.2.2 d hd).fr (fun a h1 h2 => ?_) (fun a h1 h2 => ?_) (fun i hi => ?_)
    · rw [si_v, if_neg (fun z => q (Or.inr (Or.inl (Or.inl ⟨z.1, by omega⟩))))]
      rcases hm with rfl | ⟨w, rfl⟩ <;> rfl
    · rw [si_ne (by omega)]
      rcases hm with rfl | ⟨w, rfl⟩ <;> rfl
    · rw [si_ne (by omega)]
      rcases hm with rfl | ⟨w, rfl⟩ <;> rfl
    · rw [si_2]
      rcases hm with rfl | ⟨w, rfl⟩
      · rfl
      · rw [sl_v, if_neg (by omega)]
  unfold Lc_29 N_elemP M_element M_thrown
  cases hx : inR x 8
  · rw [sh_no hx]
    simp only [onN_0, Option.bind_some, m_wrongRow_no hx]
    refine ⟨si μ 62 10 1, ?_, fin μ 1 (Or.inl rfl)⟩
    have e1 : (si μ 62 10 1).1 62 10 = 1 := by rw [si_v, if_pos ⟨rfl, rfl⟩]
    have e0 : eM (1, (0 : Int64)) μ = μ := rfl
    simp only [e0, if_true, Option.bind_some, stF, e1, show ((0 : Int32) < 1) = True from by decide]
    rfl
  obtain ⟨d, hd, rfl⟩ := inR_t hx
  obtain ⟨q, q1, q2, q3, q4, q5⟩ := h.2.2 d hd
  rw [sh_yes hd]
  simp only [onN_1]
  by_cases e2 : q = 2
  · subst e2
    obtain ⟨s, z, s1, z1, k1, k2, k3, k4, k5, k6⟩ := q5 rfl
    rw [if_pos (show μ.1 (38 + 3 * d) 0 = 2 from q2), c_isPlace k3 z1, c_at k3 z1]
    have hr : rk 2 2 = 0 := rfl
    cases hy : inR y z
    · refine ⟨si μ 62 10 2, ?_, fin μ 2 (Or.inl rfl)⟩
      have e1 : (si μ 62 10 2).1 62 10 = 2 := by rw [si_v, if_pos ⟨rfl, rfl⟩]
      have e0 : eM (2, (0 : Int64)) μ = μ := rfl
      simp only [Option.bind_some, Option.bind_none, if_true, if_false, ite_true, ite_false, Bool.false_eq_true, Bool.true_eq_false, Bool.not_true, Bool.not_false, decide_true, decide_false, decide_eq_true_eq, Sum.elim_inl, Sum.elim_inr, ne_eq, not_true, not_false_iff, reduceIte, reduceCtorEq, Bool.cond_true, Bool.cond_false, e0, m_wrongRow hd q3 (show 2 ≤ 2 by omega), hr, show ((0 : Int32) = -1) = False from by decide, show ((0 : Int32) < 0) = False from by decide, ldA_n hd (show 8 ≤ 5000 by omega), k4, M_in_n y (show z < 2 ^ 30 by omega), hy, stF, e1, show ((0 : Int32) < 2) = True from by decide]
      rfl
    · obtain ⟨i, hi, rfl⟩ := inR_t hy
      have i2 : (nI i).toNatClampNeg = i := nI_clamp (by omega)
      refine ⟨si (sl μ 92 0 (μ.1 (38 + 3 * d + 2) i).toInt64) 62 10 0, ?_, fin _ 0 (Or.inr ⟨_, rfl⟩)⟩
      have e0 : eM (0, (μ.1 (38 + 3 * d + 2) i).toInt64) μ = sl μ 92 0 (μ.1 (38 + 3 * d + 2) i).toInt64 := rfl
      have e1 : (si (sl μ 92 0 (μ.1 (38 + 3 * d + 2) i).toInt64) 62 10 0).1 62 10 = 0 := by rw [si_v, if_pos ⟨rfl, rfl⟩]
      have w1 : M_wrongRow (nI d) (sl μ 92 0 (μ.1 (38 + 3 * d + 2) i).toInt64) = some (rk 2 2) := m_wrongRow hd q3 (by omega)
      have w2 : (sl μ 92 0 (μ.1 (38 + 3 * d + 2) i).toInt64).1 89 d = nI z := k4
      have w3 : (si (sl μ 92 0 (μ.1 (38 + 3 * d + 2) i).toInt64) 62 10 0).2 90 (100 * d + i) = (μ.1 (38 + 3 * d + 2) i).toInt64 := by
        rw [si_2, sl_v, if_neg (by omega), k5 i (by omega), show 40 + 3 * d = 38 + 3 * d + 2 by omega]
      have w4 : ldL 1 (si (sl μ 92 0 (μ.1 (38 + 3 * d + 2) i).toInt64) 62 10 0) 92 0 = some (μ.1 (38 + 3 * d + 2) i).toInt64 := by
        rw [show (0 : Int32) = nI 0 from rfl, ldL_n (by omega) (by omega), si_2, sl_v, if_pos ⟨rfl, rfl⟩]
      simp only [Option.bind_some, Option.bind_none, if_true, if_false, ite_true, ite_false, Bool.false_eq_true, Bool.true_eq_false, Bool.not_true, Bool.not_false, decide_true, decide_false, decide_eq_true_eq, Sum.elim_inl, Sum.elim_inr, ne_eq, not_true, not_false_iff, reduceIte, reduceCtorEq, Bool.cond_true, Bool.cond_false, i2, e0, w1, hr, show ((0 : Int32) = -1) = False from by decide, show ((0 : Int32) < 0) = False from by decide, ldA_n hd (show 8 ≤ 5000 by omega), w2, M_in_n (nI i) (show z < 2 ^ 30 by omega), hy, stF, e1, li_100, pk_mul, nI_add, ldL_n (show 100 * d + i < 800 by omega) (show 800 ≤ 5000 by omega), w3, w4, show ((0 : Int32) = nI 0) = True from by decide, show (nI 0 = (0 : Int32)) = True from by decide]
  · have n2 : ¬ μ.1 (38 + 3 * d) 0 = 2 := by
      rw [q2, show (2 : Int32) = nI 2 from rfl, nI_eq (by omega) (by omega)]; exact e2
    have hr : rk q 2 < 0 ∧ rk q 2 ≠ -1 := by
      rcases (by omega : q = 0 ∨ q = 1) with rfl | rfl <;> exact ⟨by decide, by decide⟩
    rw [if_neg n2]
    refine ⟨si μ 62 10 2, ?_, fin μ 2 (Or.inl rfl)⟩
    have e1 : (si μ 62 10 2).1 62 10 = 2 := by rw [si_v, if_pos ⟨rfl, rfl⟩]
    have e0 : eM (2, (0 : Int64)) μ = μ := rfl
    simp only [e0, Option.bind_some, m_wrongRow hd q3 q1, if_neg hr.2, if_pos hr.1, if_true, stF, e1, show ((0 : Int32) < 2) = True from by decide]
    rfl
