/-! ===== the class's copies; the reference's image ===== -/
theorem acp_n {n : Nat} (hn : n ≤ 100) (μ : MI) (a b : Nat) : acp n n μ a 0 b 0 (nI n) = some (sa μ b (fun k => if k < n then μ.1 a k else μ.1 b k)) := by
  unfold acp
  rw [show (0 : Int32) = nI 0 from rfl, nI_clamp (by omega), nI_clamp (by omega), if_pos ⟨nI_pos' (by omega), nI_pos' (by omega), nI_pos' (by omega), by omega, by omega⟩]
  congr 2
  funext k
  unfold va_cpy
  by_cases h : k < n
  · rw [if_pos (by omega), if_pos h, Nat.sub_zero, Nat.zero_add]
  · rw [if_neg (by omega), if_neg h]
theorem c_copyFrom {t o A μ} (h : CR o A μ) (w : WF A) (ht : t + 7 ≤ o ∨ o + 7 ≤ t) : ∃ μ', Land_copyFrom t o μ = some μ' ∧ CR t A μ' ∧ ag (fun a _ => t ≤ a ∧ a ≤ t + 6) μ μ' := by
  have hn := w.n6
  have hp := w.p3
  unfold Land_copyFrom
  have x1 : ∀ (m : MI), m.1 o 2 = bI A.C → ldZ m o 2 = some A.C := fun m e => ldZ_b e
  have x2 : ∀ (m : MI), m.1 o 3 = bI A.K → ldZ m o 3 = some A.K := fun m e => ldZ_b e
  simp only [stF, stZ, Option.bind_some]
  rw [x1 _ (by rw [si_ne (by omega), si_ne (by omega)]; exact h.hC)]
  simp only [Option.bind_some]
  rw [x2 _ (by rw [si_ne (by omega), si_ne (by omega), si_ne (by omega)]; exact h.hK)]
  simp only [Option.bind_some]
  have y6 := fun m a b => acp_n (n := 6) (by omega) m a b
  have y36 := fun m a b => acp_n (n := 36) (by omega) m a b
  have y3 := fun m a b => acp_n (n := 3) (by omega) m a b
  have y18 := fun m a b => acp_n (n := 18) (by omega) m a b
  rw [show (nI 6 : Int32) = 6 from rfl] at y6
  rw [show (nI 36 : Int32) = 36 from rfl] at y36
  rw [show (nI 3 : Int32) = 3 from rfl] at y3
  rw [show (nI 18 : Int32) = 18 from rfl] at y18
  simp only [y6, y36, y3, y18, Option.bind_some]
  refine ⟨_, rfl, ⟨?_, ?_, ?_, ?_, fun f hf => ?_, fun f hf => ?_, fun a b ha hb => ?_, fun q hq => ?_, fun q hq => ?_, fun q f hq hf => ?_⟩, fun a j q => ?_, rfl⟩
  · rw [sa_ne (by omega), sa_ne (by omega), sa_ne (by omega), sa_ne (by omega), sa_ne (by omega), sa_ne (by omega), si_v, if_neg (by omega), si_v, if_neg (by omega), si_v, if_neg (by omega), si_v, if_pos ⟨rfl, rfl⟩]; exact h.hn
  · rw [sa_ne (by omega), sa_ne (by omega), sa_ne (by omega), sa_ne (by omega), sa_ne (by omega), sa_ne (by omega), si_v, if_neg (by omega), si_v, if_neg (by omega), si_v, if_pos ⟨rfl, rfl⟩, si_ne (by omega)]; exact h.hp
  · rw [sa_ne (by omega), sa_ne (by omega), sa_ne (by omega), sa_ne (by omega), sa_ne (by omega), sa_ne (by omega), si_v, if_neg (by omega), si_v, if_pos ⟨rfl, rfl⟩]
  · rw [sa_ne (by omega), sa_ne (by omega), sa_ne (by omega), sa_ne (by omega), sa_ne (by omega), sa_ne (by omega), si_v, if_pos ⟨rfl, rfl⟩]
  · rw [sa_ne (by omega), sa_ne (by omega), sa_ne (by omega), sa_ne (by omega), sa_ne (by omega), sa_at, if_pos (by omega), si_ne (by omega), si_ne (by omega), si_ne (by omega), si_ne (by omega)]; exact h.hac hf
  · rw [sa_ne (by omega), sa_ne (by omega), sa_ne (by omega), sa_ne (by omega), sa_at, if_pos (by omega), sa_ne (by omega), si_ne (by omega), si_ne (by omega), si_ne (by omega), si_ne (by omega)]; exact h.how hf
  · rw [sa_ne (by omega), sa_ne (by omega), sa_ne (by omega), sa_at, if_pos (by omega), sa_ne (by omega), sa_ne (by omega), si_ne (by omega), si_ne (by omega), si_ne (by omega), si_ne (by omega)]; exact h.hto ha hb
  · rw [sa_ne (by omega), sa_ne (by omega), sa_at, if_pos (by omega), sa_ne (by omega), sa_ne (by omega), sa_ne (by omega), si_ne (by omega), si_ne (by omega), si_ne (by omega), si_ne (by omega)]; exact h.hco hq
  · rw [sa_ne (by omega), sa_at, if_pos (by omega), sa_ne (by omega), sa_ne (by omega), sa_ne (by omega), sa_ne (by omega), si_ne (by omega), si_ne (by omega), si_ne (by omega), si_ne (by omega)]; exact h.hki hq
  · rw [sa_at, if_pos (by omega), sa_ne (by omega), sa_ne (by omega), sa_ne (by omega), sa_ne (by omega), sa_ne (by omega), si_ne (by omega), si_ne (by omega), si_ne (by omega), si_ne (by omega)]; exact h.hwo hq hf
  · rw [sa_ne (by omega), sa_ne (by omega), sa_ne (by omega), sa_ne (by omega), sa_ne (by omega), sa_ne (by omega), si_ne (by omega), si_ne (by omega), si_ne (by omega), si_ne (by omega)]
/-- where the k-th number of an image lies -/
def cel (k : Nat) : Nat × Nat := if k = 0 then (62, 0) else if k = 1 then (62, 3) else if k = 2 then (62, 4) else if k = 3 then (62, 5) else if k < 16 then (if k % 2 = 0 then (63, (k - 4) / 2) else (68, (k - 5) / 2)) else if k < 52 then (64, k - 16) else if k < 58 then (if k % 2 = 0 then (65, (k - 52) / 2) else (66, (k - 53) / 2)) else (67, k - 58)
theorem cel_inj : ∀ k, k < 76 → ∀ i, i < 76 → cel k = cel i → k = i := by decide +kernel
theorem cel_rng : ∀ k, k < 76 → 62 ≤ (cel k).1 ∧ (cel k).1 ≤ 68 ∧ ((cel k).1 = 62 → (cel k).2 = 0 ∨ (cel k).2 = 3 ∨ (cel k).2 = 4 ∨ (cel k).2 = 5) := by decide +kernel
theorem cel_ac : ∀ f, f < 6 → cel (4 + 2 * f) = (63, f) ∧ cel (5 + 2 * f) = (68, f) := by decide +kernel
theorem cel_to : ∀ f, f < 36 → cel (16 + f) = (64, f) := by decide +kernel
theorem cel_co : ∀ f, f < 3 → cel (52 + 2 * f) = (65, f) ∧ cel (53 + 2 * f) = (66, f) := by decide +kernel
theorem cel_wo : ∀ f, f < 18 → cel (58 + f) = (67, f) := by decide +kernel
def CYV (c : Nat) (b : Bool) (μ : MI) (k : Nat) : Int32 := if b = true then μ.1 (cel k).1 (cel k).2 else μ.1 c k
/-- how far a carrying is -/
def CY (c : Nat) (b : Bool) (μ : MI) (i : Nat) (m : MI) : Prop := m.1 62 40 = nI i ∧ m.1 62 41 = bI b ∧ m.2 = μ.2 ∧ (∀ k, k < 76 → m.1 c k = if k < i then CYV c b μ k else μ.1 c k) ∧ (∀ k, k < 76 → m.1 (cel k).1 (cel k).2 = if k < i then CYV c b μ k else μ.1 (cel k).1 (cel k).2) ∧ (∀ a j, a ≠ c → (a = 62 → j ≠ 40 ∧ j ≠ 41) → (∀ k, k < 76 → cel k ≠ (a, j)) → m.1 a j = μ.1 a j)
theorem carry1 {c : Nat} {b : Bool} {μ m : MI} {i : Nat} (hc : 69 ≤ c) (hi : i < 76) (h : CY c b μ i m) : ∃ r m1, M_carry c (m.1 (cel i).1 (cel i).2) m = some (r, m1) ∧ CY c b μ (i + 1) (si m1 (cel i).1 (cel i).2 r) := by
  obtain ⟨h1, h2, h3, h4, h5, h6⟩ := h
  have hr := cel_rng i hi
  have key : M_carry c (m.1 (cel i).1 (cel i).2) m = some (CYV c b μ i, si (if b = true then si m c i (CYV c b μ i) else m) 62 40 (nI (i + 1))) := by
    unfold M_carry
    rw [ldZ_b h2]
    have e5 := h5 i hi
    have e4 := h4 i hi
    rw [if_neg (by omega)] at e4 e5
    cases b
    · have z : (si m 62 40 (nI (i + 1))).1 62 40 - 1 = nI i := by rw [si_v, if_pos ⟨rfl, rfl⟩, li_1, pk_sub (by omega)]; rfl
      simp only [Option.bind_some, Option.bind_none, if_true, if_false, ite_true, ite_false, Bool.false_eq_true, Bool.true_eq_false, Bool.not_true, Bool.not_false, decide_true, decide_false, decide_eq_true_eq, Sum.elim_inl, Sum.elim_inr, ne_eq, not_true, not_false_iff, reduceIte, reduceCtorEq, Bool.cond_true, Bool.cond_false, stF, h1, li_1, nI_add]
      rw [← li_1, z, ldA_n (by omega) (by omega), si_ne (by omega), e4]
      rfl
    · have z : (si (si m c i (CYV c true μ i)) 62 40 (nI (i + 1))).1 62 40 - 1 = nI i := by rw [si_v, if_pos ⟨rfl, rfl⟩, li_1, pk_sub (by omega)]; rfl
      have z2 : (si m c i (CYV c true μ i)).1 62 40 = nI i := by rw [si_ne (by omega)]; exact h1
      have z3 : m.1 (cel i).1 (cel i).2 = CYV c true μ i := e5
      simp only [Option.bind_some, Option.bind_none, if_true, if_false, ite_true, ite_false, Bool.false_eq_true, Bool.true_eq_false, Bool.not_true, Bool.not_false, decide_true, decide_false, decide_eq_true_eq, Sum.elim_inl, Sum.elim_inr, ne_eq, not_true, not_false_iff, reduceIte, reduceCtorEq, Bool.cond_true, Bool.cond_false, stF, h1, stA_n (show i < 80 by omega) (show 80 ≤ 5000 by omega), z3, z2, li_1, nI_add]
      rw [← li_1, z, ldA_n (by omega) (by omega), si_ne (by omega), si_v, if_pos ⟨rfl, rfl⟩]
      rfl
  refine ⟨_, _, key, ?_, ?_, ?_, fun k hk => ?_, fun k hk => ?_, fun a j q1 q2 q3 => ?_⟩
  · rw [si_v, if_neg (by omega), si_v, if_pos ⟨rfl, rfl⟩]
  · rw [si_v, if_neg (by omega), si_v, if_neg (by omega)]
    cases b
    · exact h2
    · rw [if_pos rfl, si_ne (by omega)]; exact h2
  · rw [si_2, si_2]
    cases b <;> exact h3
  · rw [si_ne (by omega), si_ne (by omega)]
    cases b
    · rw [if_neg (by decide), h4 k hk]
      by_cases e : k < i
      · rw [if_pos e, if_pos (by omega)]
      · by_cases e2 : k = i
        · rw [if_neg e, if_pos (by omega)]; rfl
        · rw [if_neg e, if_neg (by omega)]
    · rw [if_pos rfl, si_v]
      by_cases e2 : k = i
      · rw [if_pos ⟨rfl, e2⟩, if_pos (by omega), e2]
      · rw [if_neg (by omega), h4 k hk]
        by_cases e : k < i
        · rw [if_pos e, if_pos (by omega)]
        · rw [if_neg e, if_neg (by omega)]
  · have rk := cel_rng k hk
    rw [si_v]
    by_cases e : k = i
    · subst e
      rw [if_pos ⟨rfl, rfl⟩, if_pos (by omega)]
    · have ne : ¬ ((cel k).1 = (cel i).1 ∧ (cel k).2 = (cel i).2) := fun q => e (cel_inj k hk i hi (Prod.ext q.1 q.2))
      rw [if_neg ne, si_v, if_neg (by omega)]
      have e3 : (if b = true then si m c i (CYV c b μ i) else m).1 (cel k).1 (cel k).2 = m.1 (cel k).1 (cel k).2 := by
        cases b
        · rfl
        · rw [if_pos rfl, si_ne (by omega)]
      rw [e3, h5 k hk]
      by_cases e4 : k < i
      · rw [if_pos e4, if_pos (by omega)]
      · rw [if_neg e4, if_neg (by omega)]
  · have ne : ¬ (a = (cel i).1 ∧ j = (cel i).2) := fun q => q3 i hi (Prod.ext q.1.symm q.2.symm)
    rw [si_v, if_neg ne, si_v, if_neg (by omega)]
    have e3 : (if b = true then si m c i (CYV c b μ i) else m).1 a j = m.1 a j := by
      cases b
      · rfl
      · rw [if_pos rfl, si_ne q1]
    rw [e3]; exact h6 a j q1 q2 q3
theorem carryA {c : Nat} {b : Bool} {μ m : MI} {i a j : Nat} (hc : 69 ≤ c) (hi : i < 76) (h : CY c b μ i m) (e : cel i = (a, j)) : ∃ r m1, M_carry c (m.1 a j) m = some (r, m1) ∧ CY c b μ (i + 1) (si m1 a j r) := by
  have := carry1 hc hi h
  rw [e] at this
  exact this
theorem m_carryTo {c : Nat} (b : Bool) (μ : MI) (hc : 69 ≤ c) : ∃ m, M_carryTo c b μ = some m ∧ CY c b μ 76 m := by
  have h0 : CY c b μ 0 (si (si μ 62 40 0) 62 41 (bI b)) := by
    refine ⟨?_, ?_, rfl, fun k hk => ?_, fun k hk => ?_, fun a j q1 q2 q3 => ?_⟩
    · rw [si_v, if_neg (by omega), si_v, if_pos ⟨rfl, rfl⟩]; rfl
    · rw [si_v, if_pos ⟨rfl, rfl⟩]
    · rw [si_ne (by omega), si_ne (by omega), if_neg (by omega)]
    · have := cel_rng k hk
      rw [si_v, if_neg (by omega), si_v, if_neg (by omega), if_neg (by omega)]
    · rw [si_v, if_neg (by omega), si_v, if_neg (by omega)]
  unfold M_carryTo
  simp only [stF, stZ, Option.bind_some]
  obtain ⟨r0, m0, a0, c0⟩ := carryA hc (by omega) h0 (a := 62) (j := 0) rfl
  rw [a0]
  simp only [Option.bind_some]
  obtain ⟨r1, m1, a1, c1⟩ := carryA hc (by omega) c0 (a := 62) (j := 3) rfl
  rw [a1]
  simp only [Option.bind_some]
  obtain ⟨r2, m2, a2, c2⟩ := carryA hc (by omega) c1 (a := 62) (j := 4) rfl
  rw [a2]
  simp only [Option.bind_some]
  obtain ⟨r3, m3, a3, c3⟩ := carryA hc (by omega) c2 (a := 62) (j := 5) rfl
  rw [a3]
  simp only [Option.bind_some]
  obtain ⟨m4, a4, c4⟩ := lp_m (step := M_carryTo_s1 c) (fun k m => CY c b μ (4 + 2 * k) m) 6 (by omega) (μ := si m3 62 5 r3) c3 (fun k m hk q => by
    obtain ⟨r, n, e1, q1⟩ := carryA hc (show 4 + 2 * k < 76 by omega) q (cel_ac k hk).1
    obtain ⟨r', n', e2, q2⟩ := carryA hc (show 4 + 2 * k + 1 < 76 by omega) q1 (a := 68) (j := k) (by rw [show 4 + 2 * k + 1 = 5 + 2 * k by omega]; exact (cel_ac k hk).2)
    refine ⟨si n' 68 k r', ?_, q2⟩
    simp only [M_carryTo_s1, li_6, if_pos (nI_lt hk (show 6 < 2 ^ 31 by omega)), ldA_n hk (show 6 ≤ 5000 by omega), Option.bind_some, e1, stA_n hk (show 6 ≤ 5000 by omega), e2, li_1, nI_add]) (fun m _ => by
    simp only [M_carryTo_s1, li_6, nI_ltI (show 6 < 2 ^ 31 by omega) (show 6 < 2 ^ 31 by omega), Nat.lt_irrefl, Option.bind_some, Option.bind_none, if_true, if_false, ite_true, ite_false, Bool.false_eq_true, Bool.true_eq_false, Bool.not_true, Bool.not_false, decide_true, decide_false, decide_eq_true_eq, Sum.elim_inl, Sum.elim_inr, ne_eq, not_true, not_false_iff, reduceIte, reduceCtorEq, Bool.cond_true, Bool.cond_false])
  rw [a4]
  simp only [Option.bind_some]
  obtain ⟨m5, a5, c5⟩ := lp_m (step := M_carryTo_s2 c) (fun k m => CY c b μ (16 + k) m) 36 (by omega) (μ := m4) c4 (fun k m hk q => by
    obtain ⟨r, n, e1, q1⟩ := carryA hc (show 16 + k < 76 by omega) q (cel_to k hk)
    refine ⟨si n 64 k r, ?_, q1⟩
    simp only [M_carryTo_s2, li_36, if_pos (nI_lt hk (show 36 < 2 ^ 31 by omega)), ldA_n hk (show 36 ≤ 5000 by omega), Option.bind_some, e1, stA_n hk (show 36 ≤ 5000 by omega), li_1, nI_add]) (fun m _ => by
    simp only [M_carryTo_s2, li_36, nI_ltI (show 36 < 2 ^ 31 by omega) (show 36 < 2 ^ 31 by omega), Nat.lt_irrefl, Option.bind_some, Option.bind_none, if_true, if_false, ite_true, ite_false, Bool.false_eq_true, Bool.true_eq_false, Bool.not_true, Bool.not_false, decide_true, decide_false, decide_eq_true_eq, Sum.elim_inl, Sum.elim_inr, ne_eq, not_true, not_false_iff, reduceIte, reduceCtorEq, Bool.cond_true, Bool.cond_false])
  rw [a5]
  simp only [Option.bind_some]
  obtain ⟨m6, a6, c6⟩ := lp_m (step := M_carryTo_s3 c) (fun k m => CY c b μ (52 + 2 * k) m) 3 (by omega) (μ := m5) c5 (fun k m hk q => by
    obtain ⟨r, n, e1, q1⟩ := carryA hc (show 52 + 2 * k < 76 by omega) q (cel_co k hk).1
    obtain ⟨r', n', e2, q2⟩ := carryA hc (show 52 + 2 * k + 1 < 76 by omega) q1 (a := 66) (j := k) (by rw [show 52 + 2 * k + 1 = 53 + 2 * k by omega]; exact (cel_co k hk).2)
    refine ⟨si n' 66 k r', ?_, q2⟩
    simp only [M_carryTo_s3, li_3, if_pos (nI_lt hk (show 3 < 2 ^ 31 by omega)), ldA_n hk (show 3 ≤ 5000 by omega), Option.bind_some, e1, stA_n hk (show 3 ≤ 5000 by omega), e2, li_1, nI_add]) (fun m _ => by
    simp only [M_carryTo_s3, li_3, nI_ltI (show 3 < 2 ^ 31 by omega) (show 3 < 2 ^ 31 by omega), Nat.lt_irrefl, Option.bind_some, Option.bind_none, if_true, if_false, ite_true, ite_false, Bool.false_eq_true, Bool.true_eq_false, Bool.not_true, Bool.not_false, decide_true, decide_false, decide_eq_true_eq, Sum.elim_inl, Sum.elim_inr, ne_eq, not_true, not_false_iff, reduceIte, reduceCtorEq, Bool.cond_true, Bool.cond_false])
  rw [a6]
  simp only [Option.bind_some]
  obtain ⟨m7, a7, c7⟩ := lp_m (step := M_carryTo_s4 c) (fun k m => CY c b μ (58 + k) m) 18 (by omega) (μ := m6) c6 (fun k m hk q => by
    obtain ⟨r, n, e1, q1⟩ := carryA hc (show 58 + k < 76 by omega) q (cel_wo k hk)
    refine ⟨si n 67 k r, ?_, q1⟩
    simp only [M_carryTo_s4, li_18, if_pos (nI_lt hk (show 18 < 2 ^ 31 by omega)), ldA_n hk (show 18 ≤ 5000 by omega), Option.bind_some, e1, stA_n hk (show 18 ≤ 5000 by omega), li_1, nI_add]) (fun m _ => by
    simp only [M_carryTo_s4, li_18, nI_ltI (show 18 < 2 ^ 31 by omega) (show 18 < 2 ^ 31 by omega), Nat.lt_irrefl, Option.bind_some, Option.bind_none, if_true, if_false, ite_true, ite_false, Bool.false_eq_true, Bool.true_eq_false, Bool.not_true, Bool.not_false, decide_true, decide_false, decide_eq_true_eq, Sum.elim_inl, Sum.elim_inr, ne_eq, not_true, not_false_iff, reduceIte, reduceCtorEq, Bool.cond_true, Bool.cond_false])
  rw [a7]
  exact ⟨m7, rfl, c7⟩
