/-! ===== land: the reference reads ===== -/
def sg (z : Nat) (b : Nat → Int32) (i : Nat) : Nat := if i < z then (b i).toNatClampNeg else 0
def TR (d z : Nat) (b : Nat → Int32) (m : MI) : Prop := d < 8 ∧ z ≤ 100 ∧ m.1 62 12 = nI (100 * d) ∧ m.1 62 13 = nI z ∧ (∀ i, i < 100 → m.2 90 (100 * d + i) = (b i).toInt64) ∧ ∀ i, i < 100 → -128 ≤ (b i).toInt ∧ (b i).toInt ≤ 127
def pZ (k a j : Nat) : Prop := (a = 62 ∧ (j = 14 ∨ j = 15 ∨ j = 16)) ∨ (70 ≤ a ∧ a ≤ 74 ∧ j = k)
theorem TR.fr {d z : Nat} {b : Nat → Int32} {m m' : MI} {k : Nat} (h : TR d z b m) (g : ag (pZ k) m m') : TR d z b m' := by
  obtain ⟨h1, h2, h3, h4, h5, h6⟩ := h
  refine ⟨h1, h2, ?_, ?_, fun i hi => by rw [g.2]; exact h5 i hi, h6⟩
  · rw [g.1 62 12 (by unfold pZ; omega)]; exact h3
  · rw [g.1 62 13 (by unfold pZ; omega)]; exact h4
theorem b255 : ∀ k : Nat, k < 256 → (128 < k → (iI ((k : Int) - 128) &&& 255) = nI (k - 128)) ∧ (k ≤ 128 → (iI ((k : Int) - 128) &&& 255).toInt ≤ 0 ∨ 128 ≤ (iI ((k : Int) - 128) &&& 255).toInt) := by decide +kernel
theorem iI_of (x : Int32) : iI x.toInt = x := by
  have h1 := x.toInt_lt
  have h2 := x.le_toInt
  apply Int32.toInt_inj.mp
  exact iI_toInt (by omega) (by omega)
theorem rel_255 {x : Int32} (h : -128 ≤ x.toInt ∧ x.toInt ≤ 127) : Rel (x &&& 255) x.toNatClampNeg := by
  obtain ⟨k, hk⟩ : ∃ k : Nat, (k : Int) = x.toInt + 128 := ⟨(x.toInt + 128).toNat, by omega⟩
  have e : iI ((k : Int) - 128) = x := by rw [hk, show x.toInt + 128 - 128 = x.toInt by omega, iI_of]
  obtain ⟨a1, a2⟩ := b255 k (by omega)
  rw [e] at a1 a2
  have en : x.toNatClampNeg = x.toInt.toNat := rfl
  refine ⟨by omega, fun q => ?_, fun q => a2 (by omega)⟩
  rw [a1 (by omega)]
  exact congrArg nI (by omega)
theorem rel_self {x : Int32} (h : -128 ≤ x.toInt ∧ x.toInt ≤ 127) : Rel x x.toNatClampNeg := by
  have en : x.toNatClampNeg = x.toInt.toNat := rfl
  refine ⟨by omega, fun q => ?_, fun q => Or.inl (by omega)⟩
  rw [← Int32.toInt_inj, nI_toInt (by omega)]; omega
theorem m_here {d z i : Nat} {b : Nat → Int32} {m : MI} (h : TR d z b m) (e : m.1 62 14 = nI i) (hi : i < 1000) : ∃ v, M_here m = some v ∧ Rel v (sg z b i) := by
  obtain ⟨h1, h2, h3, h4, h5, h6⟩ := h
  unfold M_here sg
  rw [h4, e, h3]
  by_cases y : i < z
  · rw [if_neg (nI_ge y (by omega)), if_pos y, nI_add, ldL_n (by omega) (by omega), h5 i (by omega)]
    simp only [Option.bind_some, i64_32]
    exact ⟨_, rfl, rel_255 (h6 i (by omega))⟩
  · rw [if_pos (nI_le (by omega) (by omega)), if_neg y]
    exact ⟨-1, rfl, by omega, fun q => absurd q (Nat.lt_irrefl _), fun _ => Or.inl (by decide)⟩
def Q2 (i : Nat) (β : Bool) (m : MI) : Prop := m.1 62 14 = nI i ∧ m.1 62 15 = bI β
theorem m_digit {d z i : Nat} {b : Nat → Int32} {β : Bool} {m : MI} (k : Nat) (h : TR d z b m) (q : Q2 i β m) (hi : i < 999) : ∃ m', M_readDigit m = some (nI (if (!β && dgt (sg z b) i) = true then sg z b i - 48 else 0), m') ∧ ag (pZ k) m m' ∧ Q2 (if (!β && dgt (sg z b) i) = true then i + 1 else i) (!(!β && dgt (sg z b) i)) m' ∧ m'.1 62 16 = m.1 62 16 ∧ ∀ a, 70 ≤ a → a ≤ 74 → m'.1 a = m.1 a := by
  obtain ⟨q1, q2⟩ := q
  have hb := h
  obtain ⟨h1, h2, h3, h4, h5, h6⟩ := h
  obtain ⟨v, v1, v2⟩ := m_here hb q1 (show i < 1000 by omega)
  have c : ((some β : Option Bool).bind fun b8 => if b8 = true then some true else ((M_here m).bind fun r13 => (M_in r13.toInt64 48 57).bind fun b16 => some (!b16))) = some (!(!β && dgt (sg z b) i)) := by
    rw [v1]
    cases β
    · simp only [Option.bind_some, Bool.false_eq_true, if_false]
      rw [m_inDigit v2]
      rfl
    · rfl
  unfold M_readDigit
  rw [ldZ_b q2, c]
  simp only [Option.bind_some]
  have zz : ∀ x, stZ m 62 15 x = some (si m 62 15 (bI x)) := fun x => rfl
  rw [zz]
  simp only [Option.bind_some]
  rw [ldZ_b (b := !(!β && dgt (sg z b) i)) (show (si m 62 15 (bI (!(!β && dgt (sg z b) i)))).1 62 15 = _ from by rw [si_at, if_pos rfl])]
  simp only [Option.bind_some]
  cases y : (!β && dgt (sg z b) i)
  · simp only [Bool.not_false, if_true, Bool.false_eq_true, if_false]
    exact ⟨_, rfl, ag_si (by unfold pZ; omega), ⟨by rw [si_at, if_neg (by omega)]; exact q1, by rw [si_at, if_pos rfl]⟩, by rw [si_at, if_neg (by omega)], fun a a1 a2 => si_ne (by omega)⟩
  · simp only [Bool.not_true, Bool.false_eq_true, if_false, if_true, stF, Option.bind_some]
    have y2 : 48 ≤ sg z b i ∧ sg z b i ≤ 57 := by
      rw [Bool.and_eq_true] at y
      have := y.2
      unfold dgt at this
      exact of_decide_eq_true this
    have iz : i < z := by
      rcases Nat.lt_or_ge i z with w | w
      · exact w
      · have : sg z b i = 0 := if_neg (by omega)
        omega
    have f14 : (si m 62 15 (bI false)).1 62 14 + 1 = nI (i + 1) := by rw [si_at, if_neg (by omega), q1, li_1, nI_add]
    rw [f14]
    have ix : (si (si m 62 15 (bI false)) 62 14 (nI (i + 1))).1 62 12 + (si (si m 62 15 (bI false)) 62 14 (nI (i + 1))).1 62 14 - 1 = nI (100 * d + i) := by
      rw [si_at, if_neg (by omega), si_at, if_neg (by omega), h3, si_at, if_pos rfl, nI_add, li_1, pk_sub (by omega)]
      congr 1
    rw [ix, ldL_n (by omega) (by omega)]
    simp only [Option.bind_some]
    rw [si_2, si_2, h5 i (by omega), i64_32]
    have ev : b i - 48 = nI (sg z b i - 48) := by
      have es : sg z b i = (b i).toNatClampNeg := if_pos iz
      rw [es] at y2 ⊢
      have := (rel_self (h6 i (by omega))).2.1 (by omega)
      have e2 : b i - 48 = nI (b i).toNatClampNeg - 48 := by rw [← this]
      rw [e2, li_48, pk_sub y2.1]
    rw [ev]
    exact ⟨_, rfl, ag_st (ag_si (by unfold pZ; omega)) (by unfold pZ; omega), ⟨by rw [si_at, if_pos rfl], by rw [si_at, if_neg (by omega), si_at, if_pos rfl]⟩, by rw [si_at, if_neg (by omega), si_at, if_neg (by omega)], fun a a1 a2 => by rw [si_ne (by omega), si_ne (by omega)]⟩
theorem m_take {d z i c : Nat} {b : Nat → Int32} {β : Bool} {m : MI} (k : Nat) (h : TR d z b m) (q : Q2 i β m) (hi : i < 999) (h0 : 0 < c) (hc : c < 128) : ∃ m', M_take (nI c) m = some m' ∧ ag (pZ k) m m' ∧ Q2 (if (!β && decide (sg z b i = c)) = true then i + 1 else i) (!(!β && decide (sg z b i = c))) m' ∧ m'.1 62 16 = m.1 62 16 ∧ ∀ a, 70 ≤ a → a ≤ 74 → m'.1 a = m.1 a := by
  obtain ⟨q1, q2⟩ := q
  obtain ⟨v, v1, v2⟩ := m_here h q1 (show i < 1000 by omega)
  have e := rel_eq v2 h0 hc
  have cc : ((some β : Option Bool).bind fun b9 => if b9 = true then some true else ((M_here m).bind fun r14 => some (decide (r14 ≠ nI c)))) = some (!(!β && decide (sg z b i = c))) := by
    rw [v1]
    cases β
    · simp only [Option.bind_some, Bool.false_eq_true, if_false]
      congr 1
      by_cases y : sg z b i = c
      · rw [decide_eq_true y, decide_eq_false (show ¬ v ≠ nI c from fun w => w (e.mpr y))]; rfl
      · rw [decide_eq_false y, decide_eq_true (show v ≠ nI c from fun w => y (e.mp w))]; rfl
    · rfl
  unfold M_take
  rw [ldZ_b q2, cc]
  simp only [Option.bind_some]
  have zz : ∀ x, stZ m 62 15 x = some (si m 62 15 (bI x)) := fun x => rfl
  rw [zz]
  simp only [Option.bind_some]
  rw [ldZ_b (b := !(!β && decide (sg z b i = c))) (show (si m 62 15 (bI (!(!β && decide (sg z b i = c))))).1 62 15 = _ from by rw [si_at, if_pos rfl])]
  simp only [Option.bind_some, stF]
  cases y : (!β && decide (sg z b i = c))
  · simp only [Bool.not_false, if_true, Bool.false_eq_true, if_false, Option.bind_some]
    refine ⟨_, rfl, ag_st (ag_si (by unfold pZ; omega)) (by unfold pZ; omega), ⟨?_, ?_⟩, ?_, fun a a1 a2 => by rw [si_ne (by omega), si_ne (by omega)]⟩
    · rw [si_at, if_pos rfl, si_at, if_neg (by omega), q1, li_0, nI_add, Nat.add_zero]
    · rw [si_at, if_neg (by omega), si_at, if_pos rfl]
    · rw [si_at, if_neg (by omega), si_at, if_neg (by omega)]
  · simp only [Bool.not_true, Bool.false_eq_true, if_false, if_true, Option.bind_some]
    refine ⟨_, rfl, ag_st (ag_si (by unfold pZ; omega)) (by unfold pZ; omega), ⟨?_, ?_⟩, ?_, fun a a1 a2 => by rw [si_ne (by omega), si_ne (by omega)]⟩
    · rw [si_at, if_pos rfl, si_at, if_neg (by omega), q1, li_1, nI_add]
    · rw [si_at, if_neg (by omega), si_at, if_pos rfl]
    · rw [si_at, if_neg (by omega), si_at, if_neg (by omega)]
theorem m_numL {d z M : Nat} {b : Nat → Int32} (k : Nat) (hM : M ≤ 3) : ∀ (r v i n F : Nat) (m : MI), TR d z b m → Q2 i false m → v < 10 ^ n → i + r < 999 → n + r = M → r < F → ∃ m', lp (M_readNumber_s1 (nI M)) F (nI v, nI n, m) = some (nI (nl (sg z b) r v i).1, m') ∧ ag (pZ k) m m' ∧ Q2 (nl (sg z b) r v i).2 false m' ∧ m'.1 62 16 = m.1 62 16 ∧ ∀ a, 70 ≤ a → a ≤ 74 → m'.1 a = m.1 a
  | 0, v, i, n, F + 1, m, _, q, _, _, hd, _ => by
    have : n = M := by omega
    subst this
    refine ⟨m, lp_out ?_, ag_rf _ _, q, rfl, fun _ _ _ => rfl⟩
    unfold M_readNumber_s1
    simp only []
    rw [if_neg (nI_nlt (Nat.le_refl _) (by omega))]
    simp only [Option.bind_some, Bool.false_eq_true, if_false]
    rfl
  | r + 1, v, i, n, F + 1, m, hT, q, hv, hi, hd, hF => by
    obtain ⟨q1, q2⟩ := q
    obtain ⟨x, x1, x2⟩ := m_here hT q1 (show i < 1000 by omega)
    have v3 : v < 1000 := Nat.lt_of_lt_of_le hv (show 10 ^ n ≤ 10 ^ 3 from Nat.pow_le_pow_right (by decide) (by omega))
    have c : ((if nI n < nI M then (if (0 : Int32) < nI v then ((ldZ m 62 15).bind fun b37 => if b37 = true then some false else ((M_here m).bind fun r42 => (M_in r42.toInt64 48 57).bind fun b45 => some b45)) else some false) else some false) : Option Bool) = some (decide (0 < v) && dgt (sg z b) i) := by
      rw [if_pos (nI_lt (by omega) (by omega)), ldZ_b q2, x1]
      simp only [Option.bind_some, Bool.false_eq_true, if_false]
      rw [m_inDigit x2]
      simp only [Option.bind_some]
      by_cases y : 0 < v
      · rw [if_pos (show (0 : Int32) < nI v from by rw [li_0]; exact nI_lt y (by omega)), decide_eq_true y]; rfl
      · rw [if_neg (show ¬ (0 : Int32) < nI v from by rw [li_0]; exact nI_nlt (by omega) (by omega)), decide_eq_false y]; rfl
    by_cases y : (decide (0 < v) && dgt (sg z b) i) = true
    · have y' := y
      rw [Bool.and_eq_true] at y'
      have z2 : 48 ≤ sg z b i ∧ sg z b i ≤ 57 := by have := y'.2; unfold dgt at this; exact of_decide_eq_true this
      have ev : 10 * nI v + x - 48 = nI (10 * v + (sg z b i - 48)) := by
        rw [x2.2.1 (by omega), li_10, li_48, pk_mul, nI_add, pk_sub (by omega)]
        congr 1; omega
      have st : M_readNumber_s1 (nI M) (nI v, nI n, m) = some (.inl (nI (10 * v + (sg z b i - 48)), nI (n + 1), si m 62 14 (nI (i + 1)))) := by
        unfold M_readNumber_s1
        simp only []
        rw [c, y]
        simp only [Option.bind_some, if_true]
        rw [x1]
        simp only [Option.bind_some, stF]
        rw [ev, q1, li_1, nI_add, nI_add]
      have g : ag (pZ k) m (si m 62 14 (nI (i + 1))) := ag_si (by unfold pZ; omega)
      obtain ⟨m', u1, u2, u3, u4, u5⟩ := m_numL (d := d) (z := z) (b := b) k hM r (10 * v + (sg z b i - 48)) (i + 1) (n + 1) F (si m 62 14 (nI (i + 1))) (hT.fr g) ⟨by rw [si_at, if_pos rfl], by rw [si_at, if_neg (by omega)]; exact q2⟩ (by rw [Nat.pow_succ]; omega) (by omega) (by omega) (by omega)
      have e : nl (sg z b) (r + 1) v i = nl (sg z b) r (10 * v + (sg z b i - 48)) (i + 1) := by
        show (if (decide (0 < v) && dgt (sg z b) i) = true then _ else _) = _
        rw [if_pos y]
      rw [e]
      exact ⟨m', (lp_go st).trans u1, ag_tr g u2, u3, by rw [u4, si_at, if_neg (by omega)], fun a a1 a2 => by rw [u5 a a1 a2, si_ne (by omega)]⟩
    · have st : M_readNumber_s1 (nI M) (nI v, nI n, m) = some (.inr (nI v, m)) := by
        unfold M_readNumber_s1
        simp only []
        rw [c, Bool.eq_false_iff.mpr y]
        simp only [Option.bind_some, Bool.false_eq_true, if_false]
      have e : nl (sg z b) (r + 1) v i = (v, i) := by
        show (if (decide (0 < v) && dgt (sg z b) i) = true then _ else _) = _
        rw [if_neg y]
      rw [e]
      exact ⟨m, lp_out st, ag_rf _ _, ⟨q1, q2⟩, rfl, fun _ _ _ => rfl⟩
theorem m_number {d z i M : Nat} {b : Nat → Int32} {β : Bool} {m : MI} (k : Nat) (hM : M ≤ 3) (h1 : 1 ≤ M) (h : TR d z b m) (q : Q2 i β m) (hi : i < 990) : ∃ m', M_readNumber (nI M) m = some (nI (if (!β && dgt (sg z b) i) = true then (nl (sg z b) (M - 1) (sg z b i - 48) (i + 1)).1 else 0), m') ∧ ag (pZ k) m m' ∧ Q2 (if (!β && dgt (sg z b) i) = true then (nl (sg z b) (M - 1) (sg z b i - 48) (i + 1)).2 else i) (!(!β && dgt (sg z b) i)) m' ∧ m'.1 62 16 = m.1 62 16 ∧ ∀ a, 70 ≤ a → a ≤ 74 → m'.1 a = m.1 a := by
  obtain ⟨m1, u1, u2, u3, u4, u5⟩ := m_digit k h q (show i < 999 by omega)
  unfold M_readNumber
  rw [u1]
  simp only [Option.bind_some]
  cases y : (!β && dgt (sg z b) i)
  · rw [y] at u3
    simp only [Bool.false_eq_true, if_false] at u3 ⊢
    have e1 : lp (M_readNumber_s1 (nI M)) FUEL (nI 0, 1, m1) = some (nI 0, m1) := by
      rw [fuel3]
      refine lp_out ?_
      unfold M_readNumber_s1
      simp only []
      rw [if_neg (show ¬ (0 : Int32) < nI 0 by decide)]
      split <;> simp only [Option.bind_some, Bool.false_eq_true, if_false]
    rw [e1]
    exact ⟨m1, rfl, u2, u3, u4, u5⟩
  · rw [y] at u3
    simp only [if_true] at u3 ⊢
    have z2 : 48 ≤ sg z b i ∧ sg z b i ≤ 57 := by
      rw [Bool.and_eq_true] at y
      have := y.2
      unfold dgt at this
      exact of_decide_eq_true this
    obtain ⟨m', v1, v2, v3, v4, v5⟩ := m_numL (d := d) (z := z) (b := b) k hM (M - 1) (sg z b i - 48) (i + 1) 1 FUEL m1 (h.fr u2) u3 (by omega) (by omega) (by omega) (by rw [fuel3]; omega)
    have v1' : lp (M_readNumber_s1 (nI M)) FUEL (nI (sg z b i - 48), 1, m1) = some (nI (nl (sg z b) (M - 1) (sg z b i - 48) (i + 1)).1, m') := v1
    rw [v1']
    exact ⟨m', rfl, ag_tr u2 v2, v3, by rw [v4, u4], fun a a1 a2 => by rw [v5 a a1 a2, u5 a a1 a2]⟩
