/-! ===== game, value: the reference's states ===== -/
def dg (s f : Nat) : Nat := s / 3 ^ f % 3
def gM (A : LV) (s p : Nat) : Nat := bs (fun f => decide (A.ow f = p + 1) || decide (dg s f = p + 1)) A.n
def gF (A : LV) (s : Nat) : Nat := bs (fun f => decide (A.ow f = 0) && decide (dg s f = 0)) A.n
def gD (s : Nat) (μ : MI) : Prop := ∀ f, f < 6 → μ.1 81 f = nI (dg s f)
theorem dg_lt (s f : Nat) : dg s f < 3 := Nat.mod_lt _ (by decide)
theorem dg_0 (f : Nat) : dg 0 f = 0 := by unfold dg; rw [Nat.zero_div]
theorem gM_lt {A : LV} (w : WF A) (s p : Nat) : gM A s p < 64 := Nat.lt_of_lt_of_le (bs_lt _ A.n) (two_le w.n6)
theorem gF_lt {A : LV} (w : WF A) (s : Nat) : gF A s < 64 := Nat.lt_of_lt_of_le (bs_lt _ A.n) (two_le w.n6)
theorem gM_tb (A : LV) (s p g : Nat) : (gM A s p).testBit g = (decide (g < A.n) && (decide (A.ow g = p + 1) || decide (dg s g = p + 1))) := bs_tb _ _ _
theorem gF_tb (A : LV) (s g : Nat) : (gF A s).testBit g = (decide (g < A.n) && (decide (A.ow g = 0) && decide (dg s g = 0))) := bs_tb _ _ _
theorem m_spreadGame {s : Nat} (hs : s < 729) (μ : MI) : ∃ m, M_spreadGame (nI s) μ = some m ∧ gD s m ∧ ag (fun a _ => a = 81) μ m := by
  unfold M_spreadGame
  obtain ⟨o, q1, q2, q3⟩ := lp_inv (step := M_spreadGame_s1) (s := (nI s, nI 0, μ)) (fun k t => t.1 = nI (s / 3 ^ k) ∧ t.2.1 = nI k ∧ ag (fun a _ => a = 81) μ t.2.2 ∧ ∀ g, g < k → t.2.2.1 81 g = nI (dg s g)) (fun o => gD s o.2 ∧ ag (fun a _ => a = 81) μ o.2) 6 (by omega) ⟨by rw [Nat.pow_zero, Nat.div_one], rfl, ag_rf _ _, fun g h1 => absurd h1 (Nat.not_lt_zero _)⟩ (by
      rintro k ⟨rs, i, n⟩ hk ⟨t1, t2, t3, t4⟩
      simp only at t1 t2 t3 t4; subst t2; subst t1
      refine Or.inl ⟨(nI (s / 3 ^ (k + 1)), nI (k + 1), si n 81 k (nI (s / 3 ^ k % 3))), ?_, rfl, rfl, ag_st t3 rfl, fun g h1 => ?_⟩
      · have l1 : s / 3 ^ k < 2 ^ 31 := Nat.lt_of_le_of_lt (Nat.div_le_self _ _) (by omega)
        simp only [M_spreadGame_s1, li_6, if_pos (nI_lt hk (show 6 < 2 ^ 31 by omega)), li_3, rm_n l1 (show 0 < 3 by omega) (show 3 < 2 ^ 31 by omega), stA_n hk (show 6 ≤ 5000 by omega), Option.bind_some, pk_div l1 (show 0 < 3 by omega) (show 3 < 2 ^ 31 by omega), li_1, nI_add]
        rw [Nat.div_div_eq_div_mul, ← Nat.pow_succ]
      · show (si n 81 k (nI (s / 3 ^ k % 3))).1 81 g = _
        rw [si_at]
        by_cases e : g = k
        · rw [if_pos e, e]; rfl
        · rw [if_neg e, t4 g (by omega)]) (by
      rintro ⟨rs, i, n⟩ ⟨t1, t2, t3, t4⟩
      simp only at t1 t2 t3 t4; subst t2; subst t1
      refine ⟨(nI (s / 3 ^ 6), n), ?_, t4, t3⟩
      simp only [M_spreadGame_s1, li_6, nI_ltI (show 6 < 2 ^ 31 by omega) (show 6 < 2 ^ 31 by omega), Nat.lt_irrefl, if_false])
  rw [show (nI 0 : Int32) = 0 from rfl] at q1
  rw [q1]
  exact ⟨o.2, rfl, q2, q3⟩
theorem fc_bs (P : Nat → Bool) : ∀ {n : Nat}, n ≤ 6 → fc (bs P n) = sm (fun f => if P f = true then 1 else 0) n := by
  intro n hn
  unfold fc
  have e : ∀ k, sm (fun f => if (bs P n).testBit f = true then 1 else 0) (n + k) = sm (fun f => if P f = true then 1 else 0) n := by
    intro k
    induction k with
    | zero =>
      refine sm_cg fun f hf => ?_
      rw [bs_tb, decide_eq_true (show f < n from hf), Bool.true_and]
    | succ k ih =>
      show sm (fun f => if (bs P n).testBit f = true then 1 else 0) (n + k) + (if (bs P n).testBit (n + k) = true then 1 else 0) = _
      rw [ih, bs_tb, decide_eq_false (show ¬ n + k < n by omega), Bool.false_and]
      rfl
  have := e (6 - n)
  rw [show n + (6 - n) = 6 by omega] at this
  exact this
theorem m_free {A : LV} {m : MI} {s : Nat} (h : MR A m) (w : WF A) (d : gD s m) : M_free m = some (nI (fc (gF A s))) := by
  have hn := w.n6
  have hp := w.p3
  unfold gF M_free
  rw [fc_bs _ hn]
  have key := lp_seq (step := M_free_s1 m) (fun k => (nI (sm (fun f => if (decide (A.ow f = 0) && decide (dg s f = 0)) = true then 1 else 0) k), nI k)) A.n (r := nI (sm (fun f => if (decide (A.ow f = 0) && decide (dg s f = 0)) = true then 1 else 0) A.n)) (by omega) (fun f hf => by
    have o3 := w.owl hf
    have d3 := dg_lt s f
    simp only [M_free_s1, h.hn, if_pos (nI_lt hf (show A.n < 2 ^ 31 by omega)), ldA_n (show f < 6 by omega) (show 6 ≤ 5000 by omega), h.how hf, d f (by omega), li_0, Option.bind_some, nI_eq (show A.ow f < 2 ^ 31 by omega) (show 0 < 2 ^ 31 by omega), nI_eq (show dg s f < 2 ^ 31 by omega) (show 0 < 2 ^ 31 by omega), li_1, nI_add]
    show _ = some (Sum.inl (nI (sm (fun f => if (decide (A.ow f = 0) && decide (dg s f = 0)) = true then 1 else 0) f + if (decide (A.ow f = 0) && decide (dg s f = 0)) = true then 1 else 0), nI (f + 1)))
    by_cases g1 : A.ow f = 0
    · by_cases g2 : dg s f = 0
      · simp only [if_pos g1, decide_eq_true g1, decide_eq_true g2, Option.bind_some, Option.bind_none, if_true, if_false, ite_true, ite_false, Bool.false_eq_true, Bool.true_eq_false, Bool.not_true, Bool.not_false, decide_true, decide_false, decide_eq_true_eq, Sum.elim_inl, Sum.elim_inr, ne_eq, not_true, not_false_iff, reduceIte, reduceCtorEq, Bool.cond_true, Bool.cond_false, Bool.and_self, nI_add]
      · simp only [if_pos g1, decide_eq_true g1, decide_eq_false g2, Option.bind_some, Option.bind_none, if_true, if_false, ite_true, ite_false, Bool.false_eq_true, Bool.true_eq_false, Bool.not_true, Bool.not_false, decide_true, decide_false, decide_eq_true_eq, Sum.elim_inl, Sum.elim_inr, ne_eq, not_true, not_false_iff, reduceIte, reduceCtorEq, Bool.cond_true, Bool.cond_false, Bool.and_false, nI_add]
    · simp only [if_neg g1, decide_eq_false g1, Option.bind_some, Option.bind_none, if_true, if_false, ite_true, ite_false, Bool.false_eq_true, Bool.true_eq_false, Bool.not_true, Bool.not_false, decide_true, decide_false, decide_eq_true_eq, Sum.elim_inl, Sum.elim_inr, ne_eq, not_true, not_false_iff, reduceIte, reduceCtorEq, Bool.cond_true, Bool.cond_false, Bool.false_and, nI_add]) (by
    simp only [M_free_s1, h.hn, nI_ltI (show A.n < 2 ^ 31 by omega) (show A.n < 2 ^ 31 by omega), Nat.lt_irrefl, if_false])
  have key' : lp (M_free_s1 m) FUEL (0, 0) = _ := key
  rw [key']; rfl
/-- may the person take it, with the reference's states -/
theorem cn_S {A : LV} (w : WF A) {s p f : Nat} (hp : p < 2) (hf : f < A.n) : cn A (gM A s p) (gF A s) f = ((decide (A.ow f = 0) && decide (dg s f = 0)) && al (fun k => !((decide (A.ow k = p + 1) || decide (dg s k = p + 1)) && A.br f k)) A.n) := by
  unfold cn
  rw [gF_tb, decide_eq_true hf, Bool.true_and]
  congr 1
  have : ∀ P Q : Nat → Bool, (∀ k, k < A.n → P k = Q k) → al P A.n = al Q A.n := by
    intro P Q e
    have : ∀ n, n ≤ A.n → al P n = al Q n := by
      intro n
      induction n with
      | zero => intro _; rfl
      | succ n ih => intro hn; unfold al; rw [ih (by omega), e n (by omega)]
    exact this _ (Nat.le_refl _)
  refine this _ _ fun k hk => ?_
  rw [gM_tb, decide_eq_true hk, Bool.true_and]
theorem m_canTake {A : LV} {m : MI} {s p f : Nat} (h : MR A m) (w : WF A) (d : gD s m) (hp2 : p < 2) (hf : f < A.n) : M_canTake (nI f) (nI p) m = some (cn A (gM A s p) (gF A s) f) := by
  have hn := w.n6
  have hp := w.p3
  have o3 := w.owl hf
  have d3 := dg_lt s f
  rw [cn_S w hp2 hf]
  unfold M_canTake
  rw [ldA_n (show f < 6 by omega) (by omega), h.how hf]
  simp only [Option.bind_some]
  rw [ldA_n (show f < 6 by omega) (by omega), d f (by omega)]
  have e0 : ((if nI (A.ow f) = 0 then (some (nI (dg s f))).bind (fun x14 => some (decide (x14 = 0))) else some false) : Option Bool) = some (decide (A.ow f = 0) && decide (dg s f = 0)) := by
    simp only [Option.bind_some, li_0, nI_eq (show A.ow f < 2 ^ 31 by omega) (show 0 < 2 ^ 31 by omega), nI_eq (show dg s f < 2 ^ 31 by omega) (show 0 < 2 ^ 31 by omega)]
    by_cases g1 : A.ow f = 0
    · rw [if_pos g1, decide_eq_true g1, Bool.true_and]
    · rw [if_neg g1, decide_eq_false g1, Bool.false_and]
  rw [e0]
  simp only [Option.bind_some]
  have key := lp_seq (step := M_canTake_s1 m (nI p) (nI f)) (fun k => ((decide (A.ow f = 0) && decide (dg s f = 0)) && al (fun k => !((decide (A.ow k = p + 1) || decide (dg s k = p + 1)) && A.br f k)) k, nI k)) A.n (r := (decide (A.ow f = 0) && decide (dg s f = 0)) && al (fun k => !((decide (A.ow k = p + 1) || decide (dg s k = p + 1)) && A.br f k)) A.n) (by omega) (fun k hk => by
    have o3' := w.owl hk
    have d3' := dg_lt s k
    have bb := m_bars h w hf hk
    have bself : A.br f f = false := by unfold LV.br; rw [w.di f]; simp
    simp only [M_canTake_s1, h.hn, if_pos (nI_lt hk (show A.n < 2 ^ 31 by omega)), ldA_n (show k < 6 by omega) (show 6 ≤ 5000 by omega), h.how hk, d k (by omega), Option.bind_some, li_1, nI_add, nI_eq (show A.ow k < 2 ^ 31 by omega) (show p + 1 < 2 ^ 31 by omega), nI_eq (show dg s k < 2 ^ 31 by omega) (show p + 1 < 2 ^ 31 by omega), bb, ne_eq, nI_eq (show k < 2 ^ 31 by omega) (show f < 2 ^ 31 by omega)]
    show _ = some (Sum.inl ((decide (A.ow f = 0) && decide (dg s f = 0)) && (al (fun k => !((decide (A.ow k = p + 1) || decide (dg s k = p + 1)) && A.br f k)) k && !((decide (A.ow k = p + 1) || decide (dg s k = p + 1)) && A.br f k)), nI (k + 1)))
    rw [← Bool.and_assoc]
    generalize ((decide (A.ow f = 0) && decide (dg s f = 0)) && al (fun k => !((decide (A.ow k = p + 1) || decide (dg s k = p + 1)) && A.br f k)) k) = can
    cases can
    · by_cases g1 : A.ow k = p + 1
      · simp only [if_pos g1, Option.bind_some, Option.bind_none, if_true, if_false, ite_true, ite_false, Bool.false_eq_true, Bool.true_eq_false, Bool.not_true, Bool.not_false, decide_true, decide_false, decide_eq_true_eq, Sum.elim_inl, Sum.elim_inr, ne_eq, not_true, not_false_iff, reduceIte, reduceCtorEq, Bool.cond_true, Bool.cond_false, Bool.false_and]
      · simp only [if_neg g1, Option.bind_some, Option.bind_none, if_true, if_false, ite_true, ite_false, Bool.false_eq_true, Bool.true_eq_false, Bool.not_true, Bool.not_false, decide_true, decide_false, decide_eq_true_eq, Sum.elim_inl, Sum.elim_inr, ne_eq, not_true, not_false_iff, reduceIte, reduceCtorEq, Bool.cond_true, Bool.cond_false, Bool.false_and]
    · by_cases g1 : A.ow k = p + 1
      · by_cases g3 : k = f
        · subst g3
          simp only [if_pos g1, decide_eq_true g1, bself, Option.bind_some, Option.bind_none, if_true, if_false, ite_true, ite_false, Bool.false_eq_true, Bool.true_eq_false, Bool.not_true, Bool.not_false, decide_true, decide_false, decide_eq_true_eq, Sum.elim_inl, Sum.elim_inr, ne_eq, not_true, not_false_iff, reduceIte, reduceCtorEq, Bool.cond_true, Bool.cond_false, Bool.true_and, Bool.and_false]
        · simp only [if_pos g1, decide_eq_true g1, g3, Option.bind_some, Option.bind_none, if_true, if_false, ite_true, ite_false, Bool.false_eq_true, Bool.true_eq_false, Bool.not_true, Bool.not_false, decide_true, decide_false, decide_eq_true_eq, Sum.elim_inl, Sum.elim_inr, ne_eq, not_true, not_false_iff, reduceIte, reduceCtorEq, Bool.cond_true, Bool.cond_false, Bool.true_and, Bool.true_or]
      · by_cases g2 : dg s k = p + 1
        · by_cases g3 : k = f
          · subst g3
            simp only [if_neg g1, decide_eq_false g1, decide_eq_true g2, bself, Option.bind_some, Option.bind_none, if_true, if_false, ite_true, ite_false, Bool.false_eq_true, Bool.true_eq_false, Bool.not_true, Bool.not_false, decide_true, decide_false, decide_eq_true_eq, Sum.elim_inl, Sum.elim_inr, ne_eq, not_true, not_false_iff, reduceIte, reduceCtorEq, Bool.cond_true, Bool.cond_false, Bool.true_and, Bool.and_false]
          · simp only [if_neg g1, decide_eq_false g1, decide_eq_true g2, g3, Option.bind_some, Option.bind_none, if_true, if_false, ite_true, ite_false, Bool.false_eq_true, Bool.true_eq_false, Bool.not_true, Bool.not_false, decide_true, decide_false, decide_eq_true_eq, Sum.elim_inl, Sum.elim_inr, ne_eq, not_true, not_false_iff, reduceIte, reduceCtorEq, Bool.cond_true, Bool.cond_false, Bool.true_and, Bool.or_true, Bool.false_or]
        · simp only [if_neg g1, decide_eq_false g1, decide_eq_false g2, Option.bind_some, Option.bind_none, if_true, if_false, ite_true, ite_false, Bool.false_eq_true, Bool.true_eq_false, Bool.not_true, Bool.not_false, decide_true, decide_false, decide_eq_true_eq, Sum.elim_inl, Sum.elim_inr, ne_eq, not_true, not_false_iff, reduceIte, reduceCtorEq, Bool.cond_true, Bool.cond_false, Bool.true_and, Bool.or_false, Bool.false_and]) (by
    simp only [M_canTake_s1, h.hn, nI_ltI (show A.n < 2 ^ 31 by omega) (show A.n < 2 ^ 31 by omega), Nat.lt_irrefl, if_false])
  have e1 : ((decide (A.ow f = 0) && decide (dg s f = 0)) && al (fun k => !((decide (A.ow k = p + 1) || decide (dg s k = p + 1)) && A.br f k)) 0) = (decide (A.ow f = 0) && decide (dg s f = 0)) := Bool.and_true _
  simp only [e1] at key
  rw [show (0 : Int32) = nI 0 from rfl]
  rw [key]; rfl
