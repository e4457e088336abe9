/-! ===== land: the class carries a statement out ===== -/
theorem c_join {t : Nat} {A : LV} {μ : MI} (h : CR t A μ) (w : WF A) {a b c : Nat} (ha : a < 100) (hb : b < 100) : ∃ m, Land_join t (nI a) (nI b) (nI c) μ = some (decide (a < A.n ∧ b < A.n ∧ a ≠ b ∧ A.to a b = 0), m) ∧ ag (fun x _ => t ≤ x ∧ x ≤ t + 6) μ m ∧ ((a < A.n ∧ b < A.n ∧ a ≠ b ∧ A.to a b = 0) → CR t (A.stt a b c) m) := by
  have hn := w.n6
  have two : Land_areTwo t (nI a) (nI b) μ = some (decide (a < A.n ∧ b < A.n ∧ a ≠ b)) := by
    rw [c_areTwo h w, inR_n (by omega), inR_n (by omega)]
    have e : (nI a ≠ nI b) = (a ≠ b) := by rw [ne_eq, nI_eq (by omega) (by omega)]
    simp only [e]
    by_cases z1 : a < A.n
    · by_cases z2 : b < A.n
      · by_cases z3 : a = b
        · simp [z1, z2, z3]
        · simp [z1, z2, z3]
      · simp [z1, z2]
    · simp [z1]
  unfold Land_join
  rw [two]
  by_cases z : a < A.n ∧ b < A.n ∧ a ≠ b
  · have t3 := w.t3 a b
    rw [decide_eq_true z, c_touchOf h w z.1 z.2.1]
    simp only [Option.bind_some, Option.bind_none, if_true, if_false, ite_true, ite_false, Bool.false_eq_true, Bool.true_eq_false, Bool.not_true, Bool.not_false, decide_true, decide_false, decide_eq_true_eq, Sum.elim_inl, Sum.elim_inr, ne_eq, not_true, not_false_iff, reduceIte, reduceCtorEq, Bool.cond_true, Bool.cond_false]
    have e0 : (nI (A.to a b) = 0) = (A.to a b = 0) := by rw [li_0, nI_eq (by omega) (by omega)]
    by_cases y : A.to a b = 0
    · have y' := e0.mpr y
      rw [y']
      simp only [Option.bind_some, Option.bind_none, if_true, if_false, ite_true, ite_false, Bool.false_eq_true, Bool.true_eq_false, Bool.not_true, Bool.not_false, decide_true, decide_false, decide_eq_true_eq, Sum.elim_inl, Sum.elim_inr, ne_eq, not_true, not_false_iff, reduceIte, reduceCtorEq, Bool.cond_true, Bool.cond_false]
      rw [c_setTouch h w z.1 z.2.1 z.2.2]
      simp only [Option.bind_some]
      refine ⟨_, by rw [decide_eq_true (show a < A.n ∧ b < A.n ∧ a ≠ b ∧ A.to a b = 0 from ⟨z.1, z.2.1, z.2.2, y⟩)], ag_st (ag_si (by omega)) (by omega), fun _ => ?_⟩
      exact h.stt (by omega) (by omega)
    · have y' : ¬ nI (A.to a b) = 0 := fun q => y (e0.mp q)
      rw [if_pos y']
      exact ⟨μ, by rw [decide_eq_false (show ¬ (a < A.n ∧ b < A.n ∧ a ≠ b ∧ A.to a b = 0) from fun q => y q.2.2.2)], ag_rf _ _, fun q => absurd q.2.2.2 y⟩
  · rw [decide_eq_false z]
    simp only [Option.bind_some, Option.bind_none, if_true, if_false, ite_true, ite_false, Bool.false_eq_true, Bool.true_eq_false, Bool.not_true, Bool.not_false, decide_true, decide_false, decide_eq_true_eq, Sum.elim_inl, Sum.elim_inr, ne_eq, not_true, not_false_iff, reduceIte, reduceCtorEq, Bool.cond_true, Bool.cond_false]
    exact ⟨μ, by rw [decide_eq_false (show ¬ (a < A.n ∧ b < A.n ∧ a ≠ b ∧ A.to a b = 0) from fun q => z ⟨q.1, q.2.1, q.2.2.1⟩)], ag_rf _ _, fun q => absurd ⟨q.1, q.2.1, q.2.2.1⟩ z⟩
/-- what the class has read -/
def CF (L a b c : Nat) (m : MI) : Prop := m.1 23 1 = nI L ∧ (L = 102 → m.1 23 2 = nI a) ∧ (L = 112 → m.1 23 4 = nI a ∧ m.1 23 5 = bI (decide (b ≠ 0)) ∧ (b ≠ 0 → m.1 23 2 = nI (b - 1))) ∧ (L ≠ 102 → L ≠ 112 → m.1 23 2 = nI a ∧ m.1 23 3 = nI b) ∧ (L = 104 → m.1 23 5 = bI (decide (c = 2))) ∧ (L = 119 → m.1 23 4 = nI c)
theorem c_carryPerson {A : LV} {m : MI} {a b c : Nat} (h : CR 8 A m) (w : WF A) (cf : CF 112 a b c m) (bd : BD 112 a b c) : ∃ m', LandReader_carryOutPerson 8 m = some (!(decide (A.p < b ∨ A.p = 3)), m') ∧ ag p8 m m' ∧ (¬ (A.p < b ∨ A.p = 3) → CR 8 (A.ap a b) m') := by
  have hp := w.p3
  obtain ⟨_, _, c3', _⟩ := cf
  obtain ⟨c4, c5, c6⟩ := c3' rfl
  obtain ⟨_, b2, b3, _⟩ := bd
  unfold LandReader_carryOutPerson
  rw [ldZ_b c5, c4]
  simp only [Option.bind_some]
  by_cases z : b = 0
  · rw [decide_eq_false (show ¬ b ≠ 0 from fun q => q z)]
    subst z
    obtain ⟨m', u1, u2, u3⟩ := c_addPerson h w b2 (Nat.zero_le A.p)
    have u1' : Land_addPerson 8 (nI a) 9 m = some (!decide (A.p = 3), m') := u1
    rw [u1']
    simp only [Bool.false_eq_true, if_false, Option.bind_some]
    refine ⟨m', ?_, ag_mo u2 (fun x j q => q), fun q => u3 (fun y => q (Or.inr y))⟩
    have : decide (A.p < 0 ∨ A.p = 3) = decide (A.p = 3) := decide_eq_decide.mpr (by omega)
    rw [this]
  · rw [decide_eq_true z, c6 z]
    simp only [if_true]
    rw [c_isPerson h w, inR_n (by omega)]
    simp only [Option.bind_some]
    by_cases y : b ≤ A.p
    · rw [decide_eq_true (show b - 1 < A.p by omega)]
      obtain ⟨m', u1, u2, u3⟩ := c_addPerson h w b2 y
      have e : cl b = b - 1 := by unfold cl; rw [if_neg z]
      rw [e] at u1
      simp only [if_true]
      rw [u1]
      simp only [Option.bind_some]
      refine ⟨m', ?_, ag_mo u2 (fun x j q => q), fun q => u3 (fun y => q (Or.inr y))⟩
      have : decide (A.p < b ∨ A.p = 3) = decide (A.p = 3) := decide_eq_decide.mpr (by omega)
      rw [this]
    · rw [decide_eq_false (show ¬ b - 1 < A.p by omega)]
      simp only [Bool.false_eq_true, if_false, Option.bind_some]
      exact ⟨m, by rw [decide_eq_true (show A.p < b ∨ A.p = 3 from Or.inl (by omega))]; rfl, ag_rf _ _, fun q => absurd (Or.inl (by omega)) q⟩
theorem c_carryLaw {A : LV} {m : MI} {a b : Nat} (h : CR 8 A m) (ha : m.1 23 2 = nI a) (hb : m.1 23 3 = nI b) (a9 : a ≤ 9) (b9 : b ≤ 10) : ∃ m', LandReader_carryOutLaw 8 m = some (decide (a < 2 ∧ b < 2), m') ∧ ag p8 m m' ∧ ((a < 2 ∧ b < 2) → CR 8 (A.lwv (decide (a = 1)) (decide (b = 1))) m') := by
  unfold LandReader_carryOutLaw
  have c : (if 1 < m.1 23 2 then some true else some (decide (1 < m.1 23 3))) = some (!decide (a < 2 ∧ b < 2)) := by
    rw [ha, hb, li_1]
    by_cases z : a < 2
    · rw [if_neg (nI_nlt (by omega) (by omega))]
      congr 1
      by_cases y : b < 2
      · rw [decide_eq_false (nI_nlt (by omega) (by omega)), decide_eq_true (show a < 2 ∧ b < 2 from ⟨z, y⟩)]; rfl
      · rw [decide_eq_true (nI_lt (by omega) (by omega)), decide_eq_false (show ¬ (a < 2 ∧ b < 2) from fun q => y q.2)]; rfl
    · rw [if_pos (nI_lt (by omega) (by omega)), decide_eq_false (show ¬ (a < 2 ∧ b < 2) from fun q => z q.1)]; rfl
  rw [c]
  simp only [Option.bind_some]
  by_cases z : a < 2 ∧ b < 2
  · rw [decide_eq_true z]
    have ea : decide (m.1 23 2 = 1) = decide (a = 1) := by
      rw [ha, li_1]; exact decide_eq_decide.mpr (by rw [nI_eq (by omega) (by omega)])
    have s1 : Land_setLaw 8 0 (decide (a = 1)) m = some (si m 8 2 (bI (decide (a = 1)))) := rfl
    have eb : decide ((si m 8 2 (bI (decide (a = 1)))).1 23 3 = 1) = decide (b = 1) := by
      rw [si_ne (by omega), hb, li_1]; exact decide_eq_decide.mpr (by rw [nI_eq (by omega) (by omega)])
    have s2 : Land_setLaw 8 1 (decide (b = 1)) (si m 8 2 (bI (decide (a = 1)))) = some (si (si m 8 2 (bI (decide (a = 1)))) 8 3 (bI (decide (b = 1)))) := by
      unfold Land_setLaw
      rw [if_neg (show ¬ (1 : Int32) = 0 by decide)]
      rfl
    simp only [Bool.not_true, Bool.false_eq_true, if_false, Option.bind_some, ea, s1, eb, s2]
    exact ⟨_, rfl, ag_st (ag_si (by unfold p8; omega)) (by unfold p8; omega), fun _ => (h.lw0 (decide (a = 1))).lw1 (decide (b = 1))⟩
  · rw [decide_eq_false z]
    simp only [Bool.not_false, if_true]
    exact ⟨m, rfl, ag_rf _ _, fun q => absurd q z⟩
theorem sm_ite {p : Prop} [Decidable p] (B : LV) : (if p then some B else none : Option LV).isSome = decide p := by
  by_cases h : p
  · rw [if_pos h, decide_eq_true h]; rfl
  · rw [if_neg h, decide_eq_false h]; rfl
theorem sm_itn {p : Prop} [Decidable p] (B : LV) : (if p then none else some B : Option LV).isSome = !decide p := by
  by_cases h : p
  · rw [if_pos h, decide_eq_true h]; rfl
  · rw [if_neg h, decide_eq_false h]; rfl
theorem ite_get {p : Prop} [Decidable p] {B C : LV} (h : (if p then some B else none : Option LV) = some C) : p ∧ B = C := by
  by_cases q : p
  · rw [if_pos q] at h; exact ⟨q, by cases h; rfl⟩
  · rw [if_neg q] at h; cases h
theorem itn_get {p : Prop} [Decidable p] {B C : LV} (h : (if p then none else some B : Option LV) = some C) : ¬ p ∧ B = C := by
  by_cases q : p
  · rw [if_pos q] at h; cases h
  · rw [if_neg q] at h; exact ⟨q, by cases h; rfl⟩
theorem ne_lit {L k : Nat} (hL : L < 2 ^ 31) (hk : k < 2 ^ 31) (h : L ≠ k) : ¬ nI L = nI k := fun q => h ((nI_eq hL hk).mp q)
theorem c_carryOne {A : LV} {m : MI} {L a b c : Nat} (h : CR 8 A m) (w : WF A) (cf : CF L a b c m) (bd : BD L a b c) : ∃ m', LandReader_carryOutOne 8 m = some ((stmt_ A L a b c).isSome, m') ∧ ag p8 m m' ∧ ∀ B, stmt_ A L a b c = some B → CR 8 B m' := by
  have hn := w.n6
  have hp := w.p3
  have cfb := cf
  have bdb := bd
  obtain ⟨k1, k2, k3, k4, k5, k6⟩ := cf
  obtain ⟨b1, b2, b3, b4, b5, b6, b7⟩ := bd
  unfold LandReader_carryOutOne
  rw [k1]
  simp only [Option.bind_some]
  have L7 : L < 2 ^ 31 := by omega
  by_cases e1 : L = 99
  · subst e1
    obtain ⟨x, y⟩ := k4 (by omega) (by omega)
    have c3' := b6 rfl
    subst c3'
    rw [if_pos (show nI 99 = 99 from rfl), x, y]
    obtain ⟨m', u1, u2, u3⟩ := c_join (c := 3) h w (show a < 100 by omega) (show b < 100 by omega)
    have u1' : Land_join 8 (nI a) (nI b) 3 m = _ := u1
    have e : stmt_ A 99 a b 3 = if a < A.n ∧ b < A.n ∧ a ≠ b ∧ A.to a b = 0 then some (A.stt a b 3) else none := rfl
    rw [u1', e, sm_ite]
    exact ⟨m', rfl, ag_mo u2 (fun x j q => q), fun B q => by obtain ⟨q1, q2⟩ := ite_get q; rw [← q2]; exact u3 q1⟩
  rw [if_neg (show ¬ nI L = 99 from ne_lit (k := 99) L7 (by omega) e1)]
  by_cases e2 : L = 102
  · subst e2
    rw [if_pos (show nI 102 = 102 from rfl), k2 rfl]
    obtain ⟨m', u1, u2, u3⟩ := c_addField h w (b1 (by omega))
    have e : stmt_ A 102 a b c = if a = 0 ∨ A.n = 6 then none else some (A.af a) := rfl
    rw [u1, e, sm_itn]
    exact ⟨m', rfl, ag_mo u2 (fun x j q => q), fun B q => by obtain ⟨q1, q2⟩ := itn_get q; rw [← q2]; exact u3 q1⟩
  rw [if_neg (show ¬ nI L = 102 from ne_lit (k := 102) L7 (by omega) e2)]
  by_cases e3 : L = 104
  · subst e3
    obtain ⟨x, y⟩ := k4 (by omega) (by omega)
    have z := k5 rfl
    have cc := b5 rfl
    rw [if_pos (show nI 104 = 104 from rfl), x, y, ldZ_b z]
    have e9 : ((some (decide (c = 2))).bind fun b23 => if b23 = true then (some 2 : Option Int32) else some 1) = some (nI c) := by
      rcases cc with rfl | rfl <;> rfl
    rw [e9]
    simp only [Option.bind_some]
    obtain ⟨m', u1, u2, u3⟩ := c_join (c := c) h w (show a < 100 by omega) (show b < 100 by omega)
    have e : stmt_ A 104 a b c = if a < A.n ∧ b < A.n ∧ a ≠ b ∧ A.to a b = 0 then some (A.stt a b c) else none := rfl
    rw [u1, e, sm_ite]
    exact ⟨m', rfl, ag_mo u2 (fun x j q => q), fun B q => by obtain ⟨q1, q2⟩ := ite_get q; rw [← q2]; exact u3 q1⟩
  rw [if_neg (show ¬ nI L = 104 from ne_lit (k := 104) L7 (by omega) e3)]
  by_cases e4 : L = 111
  · subst e4
    obtain ⟨x, y⟩ := k4 (by omega) (by omega)
    rw [if_pos (show nI 111 = 111 from rfl), x, y, c_isPerson h w, inR_n (by omega)]
    simp only [Option.bind_some]
    have e : stmt_ A 111 a b c = if a < A.p ∧ b < A.n then some (A.gv b (a + 1)) else none := rfl
    rw [e, sm_ite]
    by_cases z : a < A.p
    · rw [decide_eq_true z]
      have gv : Land_give 8 (nI a) (nI b) m = some (if b < A.n then (true, si m (8 + 2) b (nI (cl (a + 1)))) else (false, m)) := by
        rw [show nI a = nI (cl (a + 1)) from rfl]
        by_cases y : b < A.n
        · rw [if_pos y]; exact c_give' h w (by omega) y
        · rw [if_neg y, c_give h w, inR_n (f := b) (by omega), decide_eq_false y, if_neg (fun q => by cases q.2)]
      simp only [if_true]
      rw [gv]
      by_cases y : b < A.n
      · rw [if_pos y, decide_eq_true (show a < A.p ∧ b < A.n from ⟨z, y⟩)]
        exact ⟨_, rfl, ag_si (by unfold p8; omega), fun B q => by obtain ⟨q1, q2⟩ := ite_get q; rw [← q2]; exact h.gv⟩
      · rw [if_neg y, decide_eq_false (show ¬ (a < A.p ∧ b < A.n) from fun q => y q.2)]
        exact ⟨_, rfl, ag_rf _ _, fun B q => absurd (ite_get q).1.2 y⟩
    · rw [decide_eq_false z, decide_eq_false (show ¬ (a < A.p ∧ b < A.n) from fun q => z q.1)]
      exact ⟨_, rfl, ag_rf _ _, fun B q => absurd (ite_get q).1.1 z⟩
  rw [if_neg (show ¬ nI L = 111 from ne_lit (k := 111) L7 (by omega) e4)]
  by_cases e5 : L = 112
  · subst e5
    rw [if_pos (show nI 112 = 112 from rfl)]
    obtain ⟨m', u1, u2, u3⟩ := c_carryPerson h w cfb bdb
    have e : stmt_ A 112 a b c = if A.p < b ∨ A.p = 3 then none else some (A.ap a b) := rfl
    rw [u1, e, sm_itn]
    exact ⟨m', rfl, u2, fun B q => by obtain ⟨q1, q2⟩ := itn_get q; rw [← q2]; exact u3 q1⟩
  rw [if_neg (show ¬ nI L = 112 from ne_lit (k := 112) L7 (by omega) e5)]
  by_cases e6 : L = 119
  · subst e6
    obtain ⟨x, y⟩ := k4 (by omega) (by omega)
    rw [if_pos (show nI 119 = 119 from rfl), x, y, k6 rfl]
    have e : stmt_ A 119 a b c = if a < A.p ∧ b < A.n then some (A.sw a b c) else none := rfl
    by_cases b10 : b < 10
    · rw [c_setWorth h w (show a < 10 by omega) b10, e, sm_ite]
      by_cases z : a < A.p ∧ b < A.n
      · rw [if_pos z, decide_eq_true z]
        exact ⟨_, rfl, ag_si (by unfold p8; omega), fun B q => by obtain ⟨q1, q2⟩ := ite_get q; rw [← q2]; exact h.sw (by omega) (by omega) w⟩
      · rw [if_neg z, decide_eq_false z]
        exact ⟨_, rfl, ag_rf _ _, fun B q => absurd (ite_get q).1 z⟩
    · have z : ¬ (a < A.p ∧ b < A.n) := fun q => by have := q.2; omega
      rw [e, sm_ite, decide_eq_false z]
      have : Land_setWorth 8 (nI a) (nI b) (nI c) m = some (false, m) := by
        unfold Land_setWorth
        rw [c_isPerson h w, c_isField h w, inR_n (f := a) (by omega), inR_n (f := b) (by omega), decide_eq_false (show ¬ b < A.n by omega)]
        cases decide (a < A.p) <;> simp only [Option.bind_some, Option.bind_none, if_true, if_false, ite_true, ite_false, Bool.false_eq_true, Bool.true_eq_false, Bool.not_true, Bool.not_false, decide_true, decide_false, decide_eq_true_eq, Sum.elim_inl, Sum.elim_inr, ne_eq, not_true, not_false_iff, reduceIte, reduceCtorEq, Bool.cond_true, Bool.cond_false]
      rw [this]
      exact ⟨_, rfl, ag_rf _ _, fun B q => absurd (ite_get q).1 z⟩
  rw [if_neg (show ¬ nI L = 119 from ne_lit (k := 119) L7 (by omega) e6)]
  have e7 : L = 120 := by omega
  subst e7
  obtain ⟨x, y⟩ := k4 (by omega) (by omega)
  obtain ⟨m', u1, u2, u3⟩ := c_carryLaw h x y (b1 (by omega)) b3
  have e : stmt_ A 120 a b c = if a < 2 ∧ b < 2 then some (A.lwv (decide (a = 1)) (decide (b = 1))) else none := rfl
  rw [u1, e, sm_ite]
  exact ⟨m', rfl, u2, fun B q => by obtain ⟨q1, q2⟩ := ite_get q; rw [← q2]; exact u3 q1⟩
