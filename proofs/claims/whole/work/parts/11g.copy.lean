/-! ===== copy ===== -/
def hp (i n : Int32) (z : Nat) : Bool := decide (0 ≤ i.toInt ∧ 0 ≤ n.toInt ∧ i.toInt + n.toInt ≤ (z : Int))
theorem sub_z {z : Nat} {n : Int32} (hz : z ≤ 100) (h : 0 ≤ n.toInt) : (nI z - n).toInt = (z : Int) - n.toInt := by
  have := n.toInt_lt
  rw [Int32.toInt_sub, nI_toInt (by omega)]
  exact Int.bmod_eq_of_le (by omega) (by omega)
theorem c_hasPlaces {s z : Nat} {μ : MI} (e : μ.1 s 2 = nI z) (hz : z ≤ 100) (i n : Int32) : Shelf_hasPlaces s i n μ = some (hp i n z) := by
  unfold Shelf_hasPlaces hp
  rw [e]
  have e1 : ((0 : Int32) ≤ i) = (0 ≤ i.toInt) := by rw [Int32.le_iff_toInt_le]; rfl
  have e2 : ((0 : Int32) ≤ n) = (0 ≤ n.toInt) := by rw [Int32.le_iff_toInt_le]; rfl
  have e3 : (i ≤ nI z) = (i.toInt ≤ (z : Int)) := by rw [Int32.le_iff_toInt_le, nI_toInt (by omega)]
  simp only [e1, e2, e3]
  by_cases h1 : 0 ≤ i.toInt
  · have e4 : (n ≤ nI z - i) = (n.toInt ≤ (z : Int) - i.toInt) := by rw [Int32.le_iff_toInt_le, sub_z hz h1]
    simp only [e4]
    by_cases h2 : 0 ≤ n.toInt
    · by_cases h3 : i.toInt ≤ (z : Int)
      · have e5 : decide (nI z ≤ (100 : Int32)) = true := decide_eq_true (by rw [li_100, Int32.le_iff_toInt_le, nI_toInt (by omega), nI_toInt (by omega)]; omega)
        by_cases h4 : n.toInt ≤ (z : Int) - i.toInt
        · simp only [if_pos h1, if_pos h2, if_pos h3, if_pos h4, Option.bind_some, e5]; congr 1; symm; apply decide_eq_true; omega
        · simp only [if_pos h1, if_pos h2, if_pos h3, if_neg h4, Option.bind_some]; congr 1; symm; apply decide_eq_false; omega
      · simp only [if_pos h1, if_pos h2, if_neg h3, Option.bind_some]; congr 1; symm; apply decide_eq_false; omega
    · simp only [if_pos h1, if_neg h2, Option.bind_some]; congr 1; symm; apply decide_eq_false; omega
  · simp only [if_neg h1, Option.bind_some]; congr 1; symm; apply decide_eq_false; omega
theorem m_places {d e z y : Nat} {μ : MI} (hd : d < 8) (he : e < 8) (e1 : μ.1 89 d = nI z) (e2 : μ.1 89 e = nI y) (hz : z ≤ 100) (hy : y ≤ 100) (i j n : Int32) : (if n < 0 then some true else if i < 0 then some true else if j < 0 then some true else (ldA 8 μ 89 (nI d)).bind fun x82 => if x82 - n < i then some true else (ldA 8 μ 89 (nI e)).bind fun x87 => some (decide (x87 - n < j))) = some (!(hp i n z && hp j n y)) := by
  rw [ldA_n hd (by omega), ldA_n he (by omega), e1, e2]
  unfold hp
  have c1 : (n < (0 : Int32)) = (n.toInt < 0) := by rw [Int32.lt_iff_toInt_lt]; rfl
  have c2 : (i < (0 : Int32)) = (i.toInt < 0) := by rw [Int32.lt_iff_toInt_lt]; rfl
  have c3 : (j < (0 : Int32)) = (j.toInt < 0) := by rw [Int32.lt_iff_toInt_lt]; rfl
  simp only [c1, c2, c3, Option.bind_some]
  by_cases h1 : n.toInt < 0
  · simp only [if_pos h1]; congr 1; symm; rw [decide_eq_false (by omega)]; rfl
  by_cases h2 : i.toInt < 0
  · simp only [if_neg h1, if_pos h2]; congr 1; symm; rw [decide_eq_false (by omega)]; rfl
  by_cases h3 : j.toInt < 0
  · simp only [if_neg h1, if_neg h2, if_pos h3]; congr 1; symm; rw [decide_eq_false (p := 0 ≤ j.toInt ∧ _) (by omega), Bool.and_false]; rfl
  have c4 : (nI z - n < i) = ((z : Int) - n.toInt < i.toInt) := by rw [Int32.lt_iff_toInt_lt, sub_z hz (by omega)]
  have c5 : (nI y - n < j) = ((y : Int) - n.toInt < j.toInt) := by rw [Int32.lt_iff_toInt_lt, sub_z hy (by omega)]
  simp only [c4, c5]
  by_cases h4 : (z : Int) - n.toInt < i.toInt
  · simp only [if_neg h1, if_neg h2, if_neg h3, if_pos h4]; congr 1; symm; rw [decide_eq_false (by omega)]; rfl
  · simp only [if_neg h1, if_neg h2, if_neg h3, if_neg h4]; congr 1
    rw [decide_eq_true (p := 0 ≤ i.toInt ∧ _) (by omega), Bool.true_and, ← decide_not]
    apply decide_eq_decide.mpr; omega
theorem m_copy1 {d i n : Nat} (hd : d < 8) (hi : i + n ≤ 100) (μ : MI) : ∃ m, lp (M_copy_s1 (nI n) (nI d) (nI i)) FUEL (0, μ) = some m ∧ m.1 = μ.1 ∧ (∀ k, k < n → m.2 91 k = μ.2 90 (100 * d + i + k)) ∧ (∀ k, m.2 90 k = μ.2 90 k) := by
  obtain ⟨m, e, h1, h2, h3⟩ := lp_m (step := M_copy_s1 (nI n) (nI d) (nI i)) (fun q m => m.1 = μ.1 ∧ (∀ k, k < q → m.2 91 k = μ.2 90 (100 * d + i + k)) ∧ (∀ k, m.2 90 k = μ.2 90 k)) n (by omega) (μ := μ) ⟨rfl, fun k hk => absurd hk (Nat.not_lt_zero _), fun _ => rfl⟩ (fun q m hq ⟨q1, q2, q3⟩ => by
    refine ⟨sl m 91 q (μ.2 90 (100 * d + i + q)), ?_, q1, fun k hk => ?_, fun k => ?_⟩
    · simp only [M_copy_s1, li_100, if_pos (nI_lt hq (show n < 2 ^ 31 by omega)), pk_mul, nI_add, ldL_n (show 100 * d + i + q < 800 by omega) (show 800 ≤ 5000 by omega), q3, stL_n (show q < 100 by omega) (show 100 ≤ 5000 by omega), Option.bind_some, Option.bind_none, if_true, if_false, ite_true, ite_false, Bool.false_eq_true, Bool.true_eq_false, Bool.not_true, Bool.not_false, decide_true, decide_false, decide_eq_true_eq, Sum.elim_inl, Sum.elim_inr, ne_eq, not_true, not_false_iff, reduceIte, reduceCtorEq, Bool.cond_true, Bool.cond_false, li_1]
    · rw [sl_v]
      by_cases e : k = q
      · rw [if_pos ⟨rfl, e⟩, e]
      · rw [if_neg (by omega), q2 k (by omega)]
    · rw [sl_v, if_neg (by omega), q3]) (fun m _ => by
    simp only [M_copy_s1, if_neg (nI_nlt (Nat.le_refl n) (show n < 2 ^ 31 by omega))])
  exact ⟨m, e, h1, h2, h3⟩
theorem m_copy2 {d i n : Nat} (hd : d < 8) (hi : i + n ≤ 100) (μ : MI) : ∃ m, lp (M_copy_s2 (nI n) (nI d) (nI i)) FUEL (0, μ) = some m ∧ m.1 = μ.1 ∧ (∀ k, m.2 91 k = μ.2 91 k) ∧ (∀ k, k < n → m.2 90 (100 * d + i + k) = μ.2 91 k) ∧ (∀ k, ¬ (100 * d + i ≤ k ∧ k < 100 * d + i + n) → m.2 90 k = μ.2 90 k) := by
  obtain ⟨m, e, h1, h2, h3, h4⟩ := lp_m (step := M_copy_s2 (nI n) (nI d) (nI i)) (fun q m => m.1 = μ.1 ∧ (∀ k, m.2 91 k = μ.2 91 k) ∧ (∀ k, k < q → m.2 90 (100 * d + i + k) = μ.2 91 k) ∧ (∀ k, ¬ (100 * d + i ≤ k ∧ k < 100 * d + i + n) → m.2 90 k = μ.2 90 k)) n (by omega) (μ := μ) ⟨rfl, fun _ => rfl, fun k hk => absurd hk (Nat.not_lt_zero _), fun _ _ => rfl⟩ (fun q m hq ⟨q1, q2, q3, q4⟩ => by
    refine ⟨sl m 90 (100 * d + i + q) (μ.2 91 q), ?_, q1, fun k => ?_, fun k hk => ?_, fun k hk => ?_⟩
    · simp only [M_copy_s2, li_100, if_pos (nI_lt hq (show n < 2 ^ 31 by omega)), pk_mul, nI_add, ldL_n (show q < 100 by omega) (show 100 ≤ 5000 by omega), q2, stL_n (show 100 * d + i + q < 800 by omega) (show 800 ≤ 5000 by omega), Option.bind_some, Option.bind_none, if_true, if_false, ite_true, ite_false, Bool.false_eq_true, Bool.true_eq_false, Bool.not_true, Bool.not_false, decide_true, decide_false, decide_eq_true_eq, Sum.elim_inl, Sum.elim_inr, ne_eq, not_true, not_false_iff, reduceIte, reduceCtorEq, Bool.cond_true, Bool.cond_false, li_1]
    · rw [sl_v, if_neg (by omega), q2]
    · rw [sl_v]
      by_cases e : k = q
      · rw [if_pos (by omega), e]
      · rw [if_neg (by omega), q3 k (by omega)]
    · rw [sl_v, if_neg (by omega), q4 k hk]) (fun m _ => by
    simp only [M_copy_s2, if_neg (nI_nlt (Nat.le_refl n) (show n < 2 ^ 31 by omega))])
  exact ⟨m, e, h1, h2, h3, h4⟩
theorem L_30 {μ : MI} (h : INV μ) (x i y j n : Int32) : ∃ μ', Lc_30 x i y j n μ = some μ' ∧ INV μ' := by
  have g0 : INV (si μ 62 10 (nI 0)) := Lc_same h (ag_rf _ _) (ag_62 (by omega))
  have both : ∃ r μ1 μ2, N_copy x i y j n μ = some (r, μ1) ∧ M_copy x i y j n μ1 = some (r, μ2) ∧ INV μ2 := by
    cases hx : inR x 8
    · refine ⟨-1, μ, si μ 62 10 (nI 0), ?_, ?_, g0⟩
      · unfold N_copy
        rw [sh_no hx]
        cases hy : inR y 8
        · rw [sh_no hy]; rfl
        · obtain ⟨e, he, rfl⟩ := inR_t hy
          rw [sh_yes he]; rfl
      · unfold M_copy
        simp only [thr0, M_in7, hx, Option.bind_some, Option.bind_none, if_true, if_false, ite_true, ite_false, Bool.false_eq_true, Bool.true_eq_false, Bool.not_true, Bool.not_false, decide_true, decide_false, decide_eq_true_eq, Sum.elim_inl, Sum.elim_inr, ne_eq, not_true, not_false_iff, reduceIte, reduceCtorEq, Bool.cond_true, Bool.cond_false]
    obtain ⟨d, hd, rfl⟩ := inR_t hx
    cases hy : inR y 8
    · refine ⟨-1, μ, si μ 62 10 (nI 0), ?_, ?_, g0⟩
      · unfold N_copy
        rw [sh_yes hd, sh_no hy]; rfl
      · unfold M_copy
        simp only [thr0, M_in7, hx, hy, Option.bind_some, Option.bind_none, if_true, if_false, ite_true, ite_false, Bool.false_eq_true, Bool.true_eq_false, Bool.not_true, Bool.not_false, decide_true, decide_false, decide_eq_true_eq, Sum.elim_inl, Sum.elim_inr, ne_eq, not_true, not_false_iff, reduceIte, reduceCtorEq, Bool.cond_true, Bool.cond_false]
    obtain ⟨e, he, rfl⟩ := inR_t hy
    obtain ⟨p, p1, p2, p3, p4, p5⟩ := h.2.2 d hd
    obtain ⟨q, q1, q2, q3, q4, q5⟩ := h.2.2 e he
    have eN : N_copy (nI d) i (nI e) j n μ = (if nI p = 0 then some true else some (decide (nI q = 0))).bind fun c22 => if c22 then some ((-11), μ) else (if nI p ≠ 2 then some true else if nI q ≠ 2 then some true else some (decide (μ.1 (38 + 3 * d) 1 ≠ μ.1 (38 + 3 * e) 1))).bind fun c29 => if c29 then some ((-12), μ) else ((Shelf_hasPlaces (38 + 3 * d) i n μ).bind fun b46 => if b46 then ((Shelf_hasPlaces (38 + 3 * e) j n μ).bind fun b50 => some (!b50)) else some true).bind fun c36 => if c36 then some ((-13), μ) else (acp 100 100 μ (38 + 3 * d + 2) i (38 + 3 * e + 2) j n).bind fun m43 => some (n, m43) := by
      unfold N_copy
      rw [sh_yes hd, sh_yes he]
      simp only [onN_1, p2, q2]
    have eM' : ∀ m : MI, m.1 85 d = nI p → m.1 85 e = nI q → M_copy (nI d) i (nI e) j n m = (if nI p = 0 then some true else some (decide (nI q = 0))).bind fun c22 => if c22 then some ((-11), si m 62 10 (nI 0)) else (if nI p ≠ 2 then some true else if nI q ≠ 2 then some true else some (decide (m.1 88 d ≠ m.1 88 e))).bind fun c29 => if c29 then some ((-12), si m 62 10 (nI 0)) else (if n < 0 then some true else if i < 0 then some true else if j < 0 then some true else (ldA 8 m 89 (nI d)).bind fun x82 => if x82 - n < i then some true else (ldA 8 m 89 (nI e)).bind fun x87 => some (decide (x87 - n < j))).bind fun c36 => if c36 then some ((-13), si m 62 10 (nI 0)) else (lp (M_copy_s1 n (nI d) i) FUEL (0, si m 62 10 (nI 0))).bind fun m44 => (lp (M_copy_s2 n (nI e) j) FUEL (0, m44)).bind fun m63 => some (n, m63) := by
      intro m h1 h2
      unfold M_copy
      have r1 : ∀ a b, a ≠ 62 → (si m 62 10 (nI 0)).1 a b = m.1 a b := fun a b q => by rw [si_ne q]
      simp only [thr0, M_in7, hx, hy, Option.bind_some, Option.bind_none, if_true, if_false, ite_true, ite_false, Bool.false_eq_true, Bool.true_eq_false, Bool.not_true, Bool.not_false, decide_true, decide_false, decide_eq_true_eq, Sum.elim_inl, Sum.elim_inr, ne_eq, not_true, not_false_iff, reduceIte, reduceCtorEq, Bool.cond_true, Bool.cond_false, ldA_n hd (show 8 ≤ 5000 by omega), ldA_n he (show 8 ≤ 5000 by omega), r1 85 _ (by omega), r1 88 _ (by omega), r1 89 _ (by omega), h1, h2]
    by_cases z1 : p = 0 ∨ q = 0
    · have c1 : (if nI p = 0 then some true else some (decide (nI q = 0))) = some true := by
        by_cases g : p = 0
        · subst g; rfl
        · have g2 : q = 0 := by omega
          subst g2
          rw [decide_eq_true (show nI 0 = 0 from rfl)]
          by_cases g3 : nI p = 0 <;> simp [g3]
      refine ⟨-11, μ, si μ 62 10 (nI 0), ?_, ?_, g0⟩
      · rw [eN, c1]; rfl
      · rw [eM' μ p3 q3, c1]; rfl
    have c1 : (if nI p = 0 then some true else some (decide (nI q = 0))) = some false := by
      rw [if_neg (by rw [li_0, nI_eq (by omega) (by omega)]; omega), decide_eq_false (by rw [li_0, nI_eq (by omega) (by omega)]; omega)]
    by_cases z2 : p = 2 ∧ q = 2
    · obtain ⟨rfl, rfl⟩ := z2
      obtain ⟨s, z, s1, z1', k1, k2, k3, k4, k5, k6⟩ := p5 rfl
      obtain ⟨t, u, t1, u1, l1, l2, l3, l4, l5, l6⟩ := q5 rfl
      have n2 : ¬ (nI 2 ≠ 2) := fun g => g rfl
      by_cases g : s = t
      · subst g
        have dn : decide (nI s ≠ nI s) = false := decide_eq_false (fun g => g rfl)
        have hm := fun (m : MI) (e1 : m.1 89 d = nI z) (e2 : m.1 89 e = nI u) => m_places hd he e1 e2 z1' u1 i j n
        by_cases gg : (hp i n z && hp j n u) = true
        · have g1 : hp i n z = true := by revert gg; cases hp i n z <;> simp
          have g2 : hp j n u = true := by revert gg; rw [g1]; cases hp j n u <;> simp
          have f1 := of_decide_eq_true g1
          have f2 := of_decide_eq_true g2
          obtain ⟨i, hi, rfl⟩ := nI_of (x := i) (by rw [Int32.lt_iff_toInt_lt]; show ¬ i.toInt < 0; omega)
          obtain ⟨j, hj, rfl⟩ := nI_of (x := j) (by rw [Int32.lt_iff_toInt_lt]; show ¬ j.toInt < 0; omega)
          obtain ⟨n, hn, rfl⟩ := nI_of (x := n) (by rw [Int32.lt_iff_toInt_lt]; show ¬ n.toInt < 0; omega)
          rw [nI_toInt hi, nI_toInt hn] at f1
          rw [nI_toInt hj, nI_toInt hn] at f2
          have ea : acp 100 100 μ (38 + 3 * d + 2) (nI i) (38 + 3 * e + 2) (nI j) (nI n) = some (sa μ (38 + 3 * e + 2) (va_cpy (μ.1 (38 + 3 * d + 2)) (μ.1 (38 + 3 * e + 2)) i j n)) := by
            unfold acp
            rw [nI_clamp hi, nI_clamp hj, nI_clamp hn, if_pos ⟨nI_pos' hi, nI_pos' hj, nI_pos' hn, by omega, by omega⟩]
          obtain ⟨m1, a1, a2, a3, a4⟩ := m_copy1 (d := d) (i := i) (n := n) hd (by omega) (si (sa μ (38 + 3 * e + 2) (va_cpy (μ.1 (38 + 3 * d + 2)) (μ.1 (38 + 3 * e + 2)) i j n)) 62 10 (nI 0))
          obtain ⟨m2, b1, b2, b3, b4, b5⟩ := m_copy2 (d := e) (i := j) (n := n) he (by omega) m1
          have e40 : 40 + 3 * e = 38 + 3 * e + 2 := by omega
          have d40 : 40 + 3 * d = 38 + 3 * d + 2 := by omega
          have r1 : ∀ a b, 84 < a → (sa μ (38 + 3 * e + 2) (va_cpy (μ.1 (38 + 3 * d + 2)) (μ.1 (38 + 3 * e + 2)) i j n)).1 a b = μ.1 a b := fun a b q => by rw [sa_ne (by omega)]
          refine ⟨nI n, sa μ (38 + 3 * e + 2) (va_cpy (μ.1 (38 + 3 * d + 2)) (μ.1 (38 + 3 * e + 2)) i j n), m2, ?_, ?_, h.sh1 he (fun a k w => ?_) (fun k hk => ?_) ⟨2, by omega, ?_, ?_, fun w => by omega, fun w => ⟨s, u, s1, u1, ?_, ?_, ?_, ?_, fun k hk => ?_, fun hs k hk => ?_⟩⟩⟩
          · rw [eN, c1, k1, l1, c_hasPlaces k3 z1', c_hasPlaces l3 u1, if_neg n2, if_neg n2, dn, g1, g2, ea]; rfl
          · rw [eM' _ (by rw [r1 _ _ (by omega)]; exact p3) (by rw [r1 _ _ (by omega)]; exact q3), c1, r1 _ _ (by omega), r1 _ _ (by omega), k2, l2, if_neg n2, if_neg n2, dn, hm _ (by rw [r1 _ _ (by omega)]; exact k4) (by rw [r1 _ _ (by omega)]; exact l4), gg]
            simp only [Option.bind_some, Option.bind_none, if_true, if_false, ite_true, ite_false, Bool.false_eq_true, Bool.true_eq_false, Bool.not_true, Bool.not_false, decide_true, decide_false, decide_eq_true_eq, Sum.elim_inl, Sum.elim_inr, ne_eq, not_true, not_false_iff, reduceIte, reduceCtorEq, Bool.cond_true, Bool.cond_false, a1, b1]
          · unfold pD at w
            rw [b2, a2, si_v, if_neg (by omega), sa_ne (by omega)]
          · rw [b5 k (by omega), a4, si_2]; rfl
          · rw [b2, a2, si_v, if_neg (by omega), sa_ne (by omega)]; exact q2
          · rw [b2, a2, si_v, if_neg (by omega), sa_ne (by omega)]; exact q3
          · rw [b2, a2, si_v, if_neg (by omega), sa_ne (by omega)]; exact l1
          · rw [b2, a2, si_v, if_neg (by omega), sa_ne (by omega)]; exact l2
          · rw [b2, a2, si_v, if_neg (by omega), sa_ne (by omega)]; exact l3
          · rw [b2, a2, si_v, if_neg (by omega), sa_ne (by omega)]; exact l4
          · rw [b2, a2, si_v, if_neg (by omega), e40, sa_at]
            unfold va_cpy
            by_cases w : j ≤ k ∧ k < j + n
            · have := b4 (k - j) (by omega)
              rw [show 100 * e + j + (k - j) = 100 * e + k by omega] at this
              rw [if_pos w, this, a3 (k - j) (by omega), si_2, show 100 * d + i + (k - j) = 100 * d + (i + (k - j)) by omega]
              exact (k5 (i + (k - j)) (by omega)).trans (by rw [d40])
            · rw [if_neg w, b5 _ (by omega), a4, si_2, ← e40]
              exact l5 k hk
          · rw [b2, a2, si_v, if_neg (by omega), e40, sa_at]
            unfold va_cpy
            by_cases w : j ≤ k ∧ k < j + n
            · rw [if_pos w, ← d40]; exact k6 hs _ (by omega)
            · rw [if_neg w, ← e40]; exact l6 hs k hk
        · refine ⟨-13, μ, si μ 62 10 (nI 0), ?_, ?_, g0⟩
          · rw [eN, c1, k1, l1, c_hasPlaces k3 z1', c_hasPlaces l3 u1, if_neg n2, if_neg n2, dn]
            revert gg
            cases hp i n z <;> cases hp j n u <;> simp
          · rw [eM' μ p3 q3, c1, k2, l2, if_neg n2, if_neg n2, dn, hm μ k4 l4, Bool.eq_false_iff.mpr gg]; rfl
      · have dn : decide (nI s ≠ nI t) = true := decide_eq_true (by rw [ne_eq, nI_eq (by omega) (by omega)]; exact g)
        refine ⟨-12, μ, si μ 62 10 (nI 0), ?_, ?_, g0⟩
        · rw [eN, c1, k1, l1, if_neg n2, if_neg n2, dn]; rfl
        · rw [eM' μ p3 q3, c1, k2, l2, if_neg n2, if_neg n2, dn]; rfl
    · have c2 : ∀ b : Bool, (if nI p ≠ 2 then some true else if nI q ≠ 2 then some true else some b) = some true := by
        intro b
        by_cases gp : p = 2
        · rw [if_neg (by rw [gp]; exact fun g => g rfl), if_pos (by rw [show (2 : Int32) = nI 2 from rfl, ne_eq, nI_eq (by omega) (by omega)]; omega)]
        · rw [if_pos (by rw [show (2 : Int32) = nI 2 from rfl, ne_eq, nI_eq (by omega) (by omega)]; omega)]
      refine ⟨-12, μ, si μ 62 10 (nI 0), ?_, ?_, g0⟩
      · rw [eN, c1, c2]; rfl
      · rw [eM' μ p3 q3, c1, c2]; rfl
  obtain ⟨r, μ1, μ2, h1, h2, h3⟩ := both
  refine ⟨μ2, ?_, h3⟩
  unfold Lc_30
  simp only [h1, Option.bind_some, h2, if_true]
