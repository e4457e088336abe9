/-! ===== shelves that change: keep, row, put, element, copy ===== -/
theorem sl_v {μ : MI} {a j b k : Nat} {x : Int64} : (sl μ a j x).2 b k = if b = a ∧ k = j then x else μ.2 b k := by
  unfold sl vp_updL
  by_cases h : b = a <;> by_cases h2 : k = j <;> simp [h, h2]
theorem sl_1 {μ : MI} {a j : Nat} {x : Int64} : (sl μ a j x).1 = μ.1 := rfl
theorem rng2 {x y : Int32} {c c' : Nat} (hc : c < 2 ^ 30) (hc' : c' < 2 ^ 30) : (if x < nI 0 then some true else if nI c < x then some true else if y < nI 0 then some true else some (decide (nI c' < y))) = some (!(inR x (c + 1) && inR y (c' + 1))) := by
  rw [rng_c hc']
  have r2 := rng_c (x := x) hc
  by_cases g1 : x < nI 0
  · rw [if_pos g1] at r2 ⊢
    have := oi r2
    cases hx : inR x (c + 1)
    · rfl
    · rw [hx] at this; cases this
  · rw [if_neg g1] at r2 ⊢
    by_cases g2 : nI c < x
    · rw [if_pos g2]
      rw [decide_eq_true g2] at r2
      have := oi r2
      cases hx : inR x (c + 1)
      · rfl
      · rw [hx] at this; cases this
    · rw [if_neg g2]
      rw [decide_eq_false g2] at r2
      have := oi r2
      cases hx : inR x (c + 1)
      · rw [hx] at this; cases this
      · rfl
/-- one shelf's cells -/
def pD (d a j : Nat) : Prop := (38 + 3 * d ≤ a ∧ a ≤ 40 + 3 * d) ∨ (85 ≤ a ∧ a ≤ 89 ∧ j = d) ∨ (a = 62 ∧ j = 10)
theorem INV.sh1 {μ μ' : MI} (h : INV μ) {d : Nat} (hd : d < 8) (g : ∀ a j, ¬ pD d a j → μ'.1 a j = μ.1 a j) (l : ∀ i, ¬ (100 * d ≤ i ∧ i < 100 * d + 100) → μ'.2 90 i = μ.2 90 i) (hs : SHR d μ') : INV μ' := by
  refine h.shelf (fun a j q => g a j fun z => q ?_) fun e he => ?_
  · unfold pD at z; unfold pC pM; omega
  · by_cases q : e = d
    · subst q; exact hs
    · refine (h.2.2 e he).fr (fun a h1 h2 => funext fun j => g a j ?_) (fun a h1 h2 => g a e ?_) (fun i hi => l _ ?_)
      · unfold pD; omega
      · unfold pD; omega
      · omega
theorem L_26 {μ : MI} (h : INV μ) (x y k w : Int32) : ∃ μ', Lc_26 x y k w μ = some μ' ∧ INV μ' := by
  have g0 : INV (si μ 62 10 (nI 0)) := Lc_same h (ag_rf _ _) (ag_62 (by omega))
  unfold Lc_26 N_keep M_keep
  simp only [thr0, Option.bind_some, M_in7, M_in1, M_in9999]
  cases hx : inR x 8
  · rw [sh_no hx]
    simp only [onN_0, Option.bind_some, Option.bind_none, if_true, if_false, ite_true, ite_false, Bool.false_eq_true, Bool.true_eq_false, Bool.not_true, Bool.not_false, decide_true, decide_false, decide_eq_true_eq, Sum.elim_inl, Sum.elim_inr, ne_eq, not_true, not_false_iff, reduceIte, reduceCtorEq, Bool.cond_true, Bool.cond_false]
    exact ⟨_, rfl, g0⟩
  obtain ⟨d, hd, rfl⟩ := inR_t hx
  rw [sh_yes hd]
  have r1 := rng_c (x := y) (c := 1) (by omega)
  have r2 := rng2 (x := k) (y := w) (c := 7) (c' := 9999) (by omega) (by omega)
  simp only [onN_1, li_0, li_1, li_7, show (9999 : Int32) = nI 9999 from by decide, r1, r2]
  cases hy : inR y 2
  · simp only [Option.bind_some, Option.bind_none, if_true, if_false, ite_true, ite_false, Bool.false_eq_true, Bool.true_eq_false, Bool.not_true, Bool.not_false, decide_true, decide_false, decide_eq_true_eq, Sum.elim_inl, Sum.elim_inr, ne_eq, not_true, not_false_iff, reduceIte, reduceCtorEq, Bool.cond_true, Bool.cond_false]
    exact ⟨_, rfl, g0⟩
  obtain ⟨b, hb, rfl⟩ := inR_t hy
  have hD : ∀ a j, ¬ pD d a j → ¬ (a = 38 + 3 * d ∧ j = 0) ∧ ¬ (a = 38 + 3 * d + 1 ∧ j = 0) ∧ ¬ (a = 38 + 3 * d + 1 ∧ j = 1) ∧ ¬ (a = 38 + 3 * d + 1 ∧ j = 2) ∧ ¬ (a = 38 + 3 * d + 1 ∧ j = 3) ∧ ¬ (a = 38 + 3 * d + 1 ∧ j = 4) ∧ ¬ (a = 85 ∧ j = d) ∧ ¬ (a = 86 ∧ j = d) ∧ ¬ (a = 87 ∧ j = d) ∧ ¬ (a = 62 ∧ j = 10) := by
    intro a j q; unfold pD at q; omega
  rcases (by omega : b = 0 ∨ b = 1) with rfl | rfl
  · simp only [Option.bind_some, Option.bind_none, if_true, if_false, ite_true, ite_false, Bool.false_eq_true, Bool.true_eq_false, Bool.not_true, Bool.not_false, decide_true, decide_false, decide_eq_true_eq, Sum.elim_inl, Sum.elim_inr, ne_eq, not_true, not_false_iff, reduceIte, reduceCtorEq, Bool.cond_true, Bool.cond_false, stF, stA_n hd (show 8 ≤ 5000 by omega), nI_eq (show 0 < 2 ^ 31 by omega) (show 1 < 2 ^ 31 by omega), show ((0 : Nat) = 1) = False from by simp]
    refine ⟨_, rfl, h.sh1 hd (fun a j q => ?_) (fun i _ => rfl) ⟨0, by omega, ?_, ?_, fun e => by omega, fun e => by omega⟩⟩
    · obtain ⟨q1, q2, q3, q4, q5, q6, q7, q8, q9, q10⟩ := hD a j q
      rw [si_v, if_neg q9, si_v, if_neg q8, si_v, if_neg q7, si_v, if_neg q10, si_v, if_neg q1]
    · rw [si_v, if_neg (by omega), si_v, if_neg (by omega), si_v, if_neg (by omega), si_v, if_neg (by omega), si_v, if_pos ⟨rfl, rfl⟩]
    · rw [si_v, if_neg (by omega), si_v, if_neg (by omega), si_v, if_pos ⟨rfl, rfl⟩]
  · have e10 : (nI 1 = nI 0) = False := eq_false (by rw [nI_eq (by omega) (by omega)]; omega)
    simp only [Option.bind_some, Option.bind_none, if_true, if_false, ite_true, ite_false, Bool.false_eq_true, Bool.true_eq_false, Bool.not_true, Bool.not_false, decide_true, decide_false, decide_eq_true_eq, Sum.elim_inl, Sum.elim_inr, ne_eq, not_true, not_false_iff, reduceIte, reduceCtorEq, Bool.cond_true, Bool.cond_false, e10]
    cases hk : inR k 8
    · simp only [Option.bind_some, Option.bind_none, if_true, if_false, ite_true, ite_false, Bool.false_eq_true, Bool.true_eq_false, Bool.not_true, Bool.not_false, decide_true, decide_false, decide_eq_true_eq, Sum.elim_inl, Sum.elim_inr, ne_eq, not_true, not_false_iff, reduceIte, reduceCtorEq, Bool.cond_true, Bool.cond_false, Bool.false_and]
      exact ⟨_, rfl, g0⟩
    cases hw : inR w 10000
    · simp only [Option.bind_some, Option.bind_none, if_true, if_false, ite_true, ite_false, Bool.false_eq_true, Bool.true_eq_false, Bool.not_true, Bool.not_false, decide_true, decide_false, decide_eq_true_eq, Sum.elim_inl, Sum.elim_inr, ne_eq, not_true, not_false_iff, reduceIte, reduceCtorEq, Bool.cond_true, Bool.cond_false, Bool.and_false]
      exact ⟨_, rfl, g0⟩
    obtain ⟨k, k1, rfl⟩ := inR_t hk
    obtain ⟨v, v1, rfl⟩ := inR_t hw
    simp only [Option.bind_some, Option.bind_none, if_true, if_false, ite_true, ite_false, Bool.false_eq_true, Bool.true_eq_false, Bool.not_true, Bool.not_false, decide_true, decide_false, decide_eq_true_eq, Sum.elim_inl, Sum.elim_inr, ne_eq, not_true, not_false_iff, reduceIte, reduceCtorEq, Bool.cond_true, Bool.cond_false, Bool.and_self, Move_become, stF, stA_n hd (show 8 ≤ 5000 by omega)]
    have d1 : nI v / 1000 = nI (v / 1000) := pk_div (d := 1000) (by omega) (by omega) (by omega)
    have d2 : nI v / 100 = nI (v / 100) := pk_div (d := 100) (by omega) (by omega) (by omega)
    have d3 : nI v / 10 = nI (v / 10) := pk_div (d := 10) (by omega) (by omega) (by omega)
    have m1 : rm32 (nI (v / 1000)) 10 = nI (v / 1000) := by
      have := rm_n (a := v / 1000) (b := 10) (by omega) (by omega) (by omega)
      rw [Nat.mod_eq_of_lt (show v / 1000 < 10 by omega)] at this; exact this
    have m2 : rm32 (nI (v / 100)) 10 = nI (v / 100 % 10) := rm_n (b := 10) (by omega) (by omega) (by omega)
    have m3 : rm32 (nI (v / 10)) 10 = nI (v / 10 % 10) := rm_n (b := 10) (by omega) (by omega) (by omega)
    have m4 : rm32 (nI v) 10 = nI (v % 10) := rm_n (b := 10) (by omega) (by omega) (by omega)
    rw [d1, d2, d3, m1, m2, m3, m4]
    refine ⟨_, rfl, h.sh1 hd (fun a j q => ?_) (fun i _ => rfl) ⟨1, by omega, ?_, ?_, fun e => ⟨k, v, k1, v1, ?_⟩, fun e => by omega⟩⟩
    · obtain ⟨q1, q2, q3, q4, q5, q6, q7, q8, q9, q10⟩ := hD a j q
      rw [si_v, if_neg q9, si_v, if_neg q8, si_v, if_neg q7, si_v, if_neg q10, si_v, if_neg q6, si_v, if_neg q5, si_v, if_neg q4, si_v, if_neg q3, si_v, if_neg q2, si_v, if_neg q1]
    · rw [si_v, if_neg (by omega), si_v, if_neg (by omega), si_v, if_neg (by omega), si_v, if_neg (by omega), si_v, if_neg (by omega), si_v, if_neg (by omega), si_v, if_neg (by omega), si_v, if_neg (by omega), si_v, if_neg (by omega), si_v, if_pos ⟨rfl, rfl⟩]
    · rw [si_v, if_neg (by omega), si_v, if_neg (by omega), si_v, if_pos ⟨rfl, rfl⟩]
    · have e39 : 39 + 3 * d = 38 + 3 * d + 1 := by omega
      rw [e39]
      refine ⟨?_, ?_, ?_, ?_, ?_, ?_, ?_⟩
      · rw [si_v, if_neg (by omega), si_v, if_neg (by omega), si_v, if_neg (by omega), si_v, if_neg (by omega), si_v, if_neg (by omega), si_v, if_neg (by omega), si_v, if_neg (by omega), si_v, if_neg (by omega), si_v, if_pos ⟨rfl, rfl⟩]
      · rw [si_v, if_neg (by omega), si_v, if_neg (by omega), si_v, if_neg (by omega), si_v, if_neg (by omega), si_v, if_neg (by omega), si_v, if_neg (by omega), si_v, if_neg (by omega), si_v, if_pos ⟨rfl, rfl⟩]
      · rw [si_v, if_neg (by omega), si_v, if_neg (by omega), si_v, if_neg (by omega), si_v, if_neg (by omega), si_v, if_neg (by omega), si_v, if_neg (by omega), si_v, if_pos ⟨rfl, rfl⟩]
      · rw [si_v, if_neg (by omega), si_v, if_neg (by omega), si_v, if_neg (by omega), si_v, if_neg (by omega), si_v, if_neg (by omega), si_v, if_pos ⟨rfl, rfl⟩]
      · rw [si_v, if_neg (by omega), si_v, if_neg (by omega), si_v, if_neg (by omega), si_v, if_neg (by omega), si_v, if_pos ⟨rfl, rfl⟩]
      · rw [si_v, if_neg (by omega), si_v, if_pos ⟨rfl, rfl⟩]
      · rw [si_v, if_pos ⟨rfl, rfl⟩]
theorem sa_ne {μ : MI} {a b : Nat} {f : Nat → Int32} (h : b ≠ a) : (sa μ a f).1 b = μ.1 b := by unfold sa; exact if_neg h
theorem sa_at {μ : MI} {a : Nat} {f : Nat → Int32} : (sa μ a f).1 a = f := by unfold sa; simp
theorem m_rowloop {d : Nat} (hd : d < 8) (μ : MI) : ∃ m, lp (M_row_s1 (nI d)) FUEL (0, μ) = some m ∧ m.1 = μ.1 ∧ (∀ i, i < 100 → m.2 90 (100 * d + i) = 0) ∧ (∀ i, ¬ (100 * d ≤ i ∧ i < 100 * d + 100) → m.2 90 i = μ.2 90 i) := by
  obtain ⟨m, e, h1, h2, h3⟩ := lp_m (step := M_row_s1 (nI d)) (fun k m => m.1 = μ.1 ∧ (∀ i, i < k → m.2 90 (100 * d + i) = 0) ∧ (∀ i, ¬ (100 * d ≤ i ∧ i < 100 * d + 100) → m.2 90 i = μ.2 90 i)) 100 (by omega) (μ := μ) ⟨rfl, fun i hi => absurd hi (Nat.not_lt_zero _), fun i _ => rfl⟩ (fun k m hk ⟨q1, q2, q3⟩ => by
    refine ⟨sl m 90 (100 * d + k) 0, ?_, q1, fun i hi => ?_, fun i hi => ?_⟩
    · simp only [M_row_s1, li_100, if_pos (nI_lt hk (show 100 < 2 ^ 31 by omega)), pk_mul, nI_add, stL_n (show 100 * d + k < 800 by omega) (show 800 ≤ 5000 by omega), Option.bind_some, Option.bind_none, if_true, if_false, ite_true, ite_false, Bool.false_eq_true, Bool.true_eq_false, Bool.not_true, Bool.not_false, decide_true, decide_false, decide_eq_true_eq, Sum.elim_inl, Sum.elim_inr, ne_eq, not_true, not_false_iff, reduceIte, reduceCtorEq, Bool.cond_true, Bool.cond_false, li_1]
    · rw [sl_v]
      by_cases e : i = k
      · rw [if_pos (by omega)]
      · rw [if_neg (by omega), q2 i (by omega)]
    · rw [sl_v, if_neg (by omega), q3 i hi]) (fun m _ => by
    simp only [M_row_s1, li_100, nI_ltI (show 100 < 2 ^ 31 by omega) (show 100 < 2 ^ 31 by omega), Nat.lt_irrefl, Option.bind_some, Option.bind_none, if_true, if_false, ite_true, ite_false, Bool.false_eq_true, Bool.true_eq_false, Bool.not_true, Bool.not_false, decide_true, decide_false, decide_eq_true_eq, Sum.elim_inl, Sum.elim_inr, ne_eq, not_true, not_false_iff, reduceIte, reduceCtorEq, Bool.cond_true, Bool.cond_false])
  exact ⟨m, e, h1, h2, h3⟩
theorem L_27 {μ : MI} (h : INV μ) (x y z : Int32) : ∃ μ', Lc_27 x y z μ = some μ' ∧ INV μ' := by
  have g0 : INV (si μ 62 10 (nI 0)) := Lc_same h (ag_rf _ _) (ag_62 (by omega))
  unfold Lc_27 N_row M_row
  simp only [thr0, Option.bind_some, M_in7, M_in2]
  cases hx : inR x 8
  · rw [sh_no hx]
    simp only [onN_0, Option.bind_some, Option.bind_none, if_true, if_false, ite_true, ite_false, Bool.false_eq_true, Bool.true_eq_false, Bool.not_true, Bool.not_false, decide_true, decide_false, decide_eq_true_eq, Sum.elim_inl, Sum.elim_inr, ne_eq, not_true, not_false_iff, reduceIte, reduceCtorEq, Bool.cond_true, Bool.cond_false]
    exact ⟨_, rfl, g0⟩
  obtain ⟨d, hd, rfl⟩ := inR_t hx
  rw [sh_yes hd]
  simp only [onN_1, li_0, li_2, li_100]
  have r1 : (if y < nI 0 then some true else if nI 2 < y then some true else some (decide (nI 100 < z))) = some (!inR y 3 || decide (nI 100 < z)) := by
    have r2 := rng_c (x := y) (c := 2) (by omega)
    by_cases g1 : y < nI 0
    · rw [if_pos g1] at r2 ⊢
      rw [← oi r2]; rfl
    · rw [if_neg g1] at r2 ⊢
      rw [← oi r2]
      by_cases g2 : nI 2 < y <;> simp [g2]
  rw [r1]
  cases hy : inR y 3
  · simp only [Option.bind_some, Option.bind_none, if_true, if_false, ite_true, ite_false, Bool.false_eq_true, Bool.true_eq_false, Bool.not_true, Bool.not_false, decide_true, decide_false, decide_eq_true_eq, Sum.elim_inl, Sum.elim_inr, ne_eq, not_true, not_false_iff, reduceIte, reduceCtorEq, Bool.cond_true, Bool.cond_false, Bool.true_or]
    exact ⟨_, rfl, g0⟩
  obtain ⟨s, hs, rfl⟩ := inR_t hy
  by_cases gz : nI 100 < z
  · simp only [Option.bind_some, Option.bind_none, if_true, if_false, ite_true, ite_false, Bool.false_eq_true, Bool.true_eq_false, Bool.not_true, Bool.not_false, decide_true, decide_false, decide_eq_true_eq, Sum.elim_inl, Sum.elim_inr, ne_eq, not_true, not_false_iff, reduceIte, reduceCtorEq, Bool.cond_true, Bool.cond_false, gz, Bool.or_true]
    exact ⟨_, rfl, g0⟩
  by_cases gn : z < nI 0
  · simp only [Option.bind_some, Option.bind_none, if_true, if_false, ite_true, ite_false, Bool.false_eq_true, Bool.true_eq_false, Bool.not_true, Bool.not_false, decide_true, decide_false, decide_eq_true_eq, Sum.elim_inl, Sum.elim_inr, ne_eq, not_true, not_false_iff, reduceIte, reduceCtorEq, Bool.cond_true, Bool.cond_false, gz, gn, Bool.or_self]
    exact ⟨_, rfl, g0⟩
  obtain ⟨n, hn, rfl⟩ := nI_of gn
  have n100 : n ≤ 100 := by
    rw [nI_ltI (by omega) hn] at gz; omega
  simp only [Option.bind_some, Option.bind_none, if_true, if_false, ite_true, ite_false, Bool.false_eq_true, Bool.true_eq_false, Bool.not_true, Bool.not_false, decide_true, decide_false, decide_eq_true_eq, Sum.elim_inl, Sum.elim_inr, ne_eq, not_true, not_false_iff, reduceIte, reduceCtorEq, Bool.cond_true, Bool.cond_false, gz, gn, Bool.or_self, Shelf_becomeRow, stF, flA, li_0, li_2, stA_n hd (show 8 ≤ 5000 by omega)]
  obtain ⟨m, e, h1, h2, h3⟩ := m_rowloop hd (si (si (si (si (sa (si (si (si μ (38 + 3 * d) 0 (nI 2)) (38 + 3 * d) 1 (nI s)) (38 + 3 * d) 2 (nI n)) (38 + 3 * d + 2) (fl ((si (si (si μ (38 + 3 * d) 0 (nI 2)) (38 + 3 * d) 1 (nI s)) (38 + 3 * d) 2 (nI n)).1 (38 + 3 * d + 2)) 100 (nI 0))) 62 10 (nI 0)) 85 d (nI 2)) 88 d (nI s)) 89 d (nI n))
  rw [show (nI 0, (si (si (si (si (sa (si (si (si μ (38 + 3 * d) 0 (nI 2)) (38 + 3 * d) 1 (nI s)) (38 + 3 * d) 2 (nI n)) (38 + 3 * d + 2) (fl ((si (si (si μ (38 + 3 * d) 0 (nI 2)) (38 + 3 * d) 1 (nI s)) (38 + 3 * d) 2 (nI n)).1 (38 + 3 * d + 2)) 100 (nI 0))) 62 10 (nI 0)) 85 d (nI 2)) 88 d (nI s)) 89 d (nI n))) = ((0 : Int32), _) from rfl, e]
  simp only [Option.bind_some, Option.bind_none, if_true, if_false, ite_true, ite_false, Bool.false_eq_true, Bool.true_eq_false, Bool.not_true, Bool.not_false, decide_true, decide_false, decide_eq_true_eq, Sum.elim_inl, Sum.elim_inr, ne_eq, not_true, not_false_iff, reduceIte, reduceCtorEq, Bool.cond_true, Bool.cond_false]
  have e40 : 40 + 3 * d = 38 + 3 * d + 2 := by omega
  refine ⟨m, rfl, h.sh1 hd (fun a j q => ?_) h3 ⟨2, by omega, ?_, ?_, fun e => by omega, fun e => ⟨s, n, hs, n100, ?_, ?_, ?_, ?_, fun i hi => ?_, fun _ i hi => ?_⟩⟩⟩
  · have q : ¬ (a = 38 + 3 * d) ∧ ¬ (a = 38 + 3 * d + 2) ∧ ¬ (a = 85 ∧ j = d) ∧ ¬ (a = 88 ∧ j = d) ∧ ¬ (a = 89 ∧ j = d) ∧ ¬ (a = 62 ∧ j = 10) := by unfold pD at q; omega
    rw [h1, si_v, if_neg (by omega), si_v, if_neg (by omega), si_v, if_neg (by omega), si_v, if_neg (by omega), sa_ne (by omega), si_v, if_neg (by omega), si_v, if_neg (by omega), si_v, if_neg (by omega)]
  · rw [h1, si_v, if_neg (by omega), si_v, if_neg (by omega), si_v, if_neg (by omega), si_v, if_neg (by omega), sa_ne (by omega), si_v, if_neg (by omega), si_v, if_neg (by omega), si_v, if_pos ⟨rfl, rfl⟩]
  · rw [h1, si_v, if_neg (by omega), si_v, if_neg (by omega), si_v, if_pos ⟨rfl, rfl⟩]
  · rw [h1, si_v, if_neg (by omega), si_v, if_neg (by omega), si_v, if_neg (by omega), si_v, if_neg (by omega), sa_ne (by omega), si_v, if_neg (by omega), si_v, if_pos ⟨rfl, rfl⟩]
  · rw [h1, si_v, if_neg (by omega), si_v, if_pos ⟨rfl, rfl⟩]
  · rw [h1, si_v, if_neg (by omega), si_v, if_neg (by omega), si_v, if_neg (by omega), si_v, if_neg (by omega), sa_ne (by omega), si_v, if_pos ⟨rfl, rfl⟩]
  · rw [h1, si_v, if_pos ⟨rfl, rfl⟩]
  · rw [h2 i hi, h1, e40, si_v, if_neg (by omega), si_v, if_neg (by omega), si_v, if_neg (by omega), si_v, if_neg (by omega), sa_at, fl, if_pos hi]; rfl
  · rw [h1, e40, si_v, if_neg (by omega), si_v, if_neg (by omega), si_v, if_neg (by omega), si_v, if_neg (by omega), sa_at, fl, if_pos hi]; decide
