/-! ===== field, touch, person, worth, lawful, firstUnlawful ===== -/
def oN (o : Nat) : Int32 := if o = 0 then -4 else nI (o - 1)
theorem orNone_v {o : Nat} (ho : o ≤ 3) : N_orNone (nI (cl o)) = some (oN o) := by
  unfold N_orNone oN
  rcases o with _ | o
  · rfl
  · rw [cl_s, if_neg (show ¬ nI o = 9 from by rw [li_9, nI_eq (by omega) (by omega)]; omega), if_neg (by omega)]; rfl
theorem ownO {o : Nat} (ho : o ≤ 3) (k : Int32) : (if nI o = nI 0 then some (-4) else some (nI o - nI 1)) = some (oN o) := by
  unfold oN
  rcases o with _ | o
  · rfl
  · rw [if_neg (by rw [nI_eq (by omega) (by omega)]; omega), if_neg (by omega), pk_sub (by omega)]
def sField (A : LV) (f w : Int32) : Int32 := if inR f A.n = true ∧ inR w 3 = true then (if w = 0 then nI (A.ac f.toNatClampNeg) else if w = 1 then oN (A.ow f.toNatClampNeg) else nI (bs (fun b => A.br f.toNatClampNeg b) A.n)) else -1
theorem N_field_v {A μ} (h : CR 1 A μ) (w : WF A) (f x : Int32) : N_field f x μ = some (sField A f x) := by
  have hn := w.n6
  have hp := w.p3
  unfold N_field sField
  rw [c_isField h w]
  simp only [li_0, li_2]
  rw [rng_c (x := x) (c := 2) (by omega)]
  cases h1 : inR f A.n
  · simp
  cases h2 : inR x 3
  · simp
  obtain ⟨a, ha, rfl⟩ := inR_t h1
  obtain ⟨y, hy, rfl⟩ := inR_t h2
  have o1 := w.owl ha
  simp only [c_acresOf h w ha, c_ownerOf h w ha, c_barBits h w (show a < 6 by omega), orNone_v (show A.ow a ≤ 3 by omega), nI_clamp (show a < 2 ^ 31 by omega), Option.bind_some, Option.bind_none, if_true, if_false, ite_true, ite_false, Bool.false_eq_true, Bool.true_eq_false, Bool.not_true, Bool.not_false, decide_true, decide_false, decide_eq_true_eq, Sum.elim_inl, Sum.elim_inr, ne_eq, not_true, not_false_iff, reduceIte, reduceCtorEq, Bool.cond_true, Bool.cond_false, li_1, nI_eq (show y < 2 ^ 31 by omega) (show 0 < 2 ^ 31 by omega), nI_eq (show y < 2 ^ 31 by omega) (show 1 < 2 ^ 31 by omega)]
  by_cases e0 : y = 0
  · simp [e0]
  · by_cases e1 : y = 1 <;> simp [e0, e1]
theorem M_field_v {A μ} (h : MR A μ) (w : WF A) (f x : Int32) : ∃ μ2, M_field f x μ = some (sField A f x, μ2) ∧ ag pM μ μ2 := by
  have hn := w.n6
  have hp := w.p3
  refine ⟨si μ 62 10 (nI 0), ?_, ag_62 (by omega)⟩
  have h' : MR A (si μ 62 10 (nI 0)) := h.agM (ag_62 (by omega))
  unfold M_field sField
  rw [thr0]
  simp only [Option.bind_some, m_isField h' w, M_in2]
  cases h1 : inR f A.n
  · simp
  cases h2 : inR x 3
  · simp
  obtain ⟨a, ha, rfl⟩ := inR_t h1
  obtain ⟨y, hy, rfl⟩ := inR_t h2
  have o1 := w.owl ha
  simp only [ldA_n (show a < 6 by omega) (show 6 ≤ 5000 by omega), h'.hac ha, h'.how ha, m_barring h' w ha, nI_clamp (show a < 2 ^ 31 by omega), Option.bind_some, Option.bind_none, if_true, if_false, ite_true, ite_false, Bool.false_eq_true, Bool.true_eq_false, Bool.not_true, Bool.not_false, decide_true, decide_false, decide_eq_true_eq, Sum.elim_inl, Sum.elim_inr, ne_eq, not_true, not_false_iff, reduceIte, reduceCtorEq, Bool.cond_true, Bool.cond_false, li_0, li_1, li_2, ownO (show A.ow a ≤ 3 by omega) 0, nI_eq (show y < 2 ^ 31 by omega) (show 0 < 2 ^ 31 by omega), nI_eq (show y < 2 ^ 31 by omega) (show 1 < 2 ^ 31 by omega), nI_eq (show y < 2 ^ 31 by omega) (show 2 < 2 ^ 31 by omega)]
  by_cases e0 : y = 0
  · simp [e0]
  · by_cases e1 : y = 1
    · simp [e1]
    · have e2 : y = 2 := by omega
      simp [e2]
def sTouch (A : LV) (a b : Int32) : Int32 := if inR a A.n = true ∧ inR b A.n = true ∧ a ≠ b then nI (A.to a.toNatClampNeg b.toNatClampNeg) else -1
theorem N_touch_v {A μ} (h : CR 1 A μ) (w : WF A) (a b : Int32) : N_touch a b μ = some (sTouch A a b) := by
  have hn := w.n6
  unfold N_touch sTouch
  rw [c_areTwo h w]
  cases h1 : inR a A.n
  · simp
  cases h2 : inR b A.n
  · simp
  obtain ⟨x, hx, rfl⟩ := inR_t h1
  obtain ⟨y, hy, rfl⟩ := inR_t h2
  simp only [c_touchOf h w hx hy, nI_clamp (show x < 2 ^ 31 by omega), nI_clamp (show y < 2 ^ 31 by omega), Option.bind_some, Option.bind_none, if_true, if_false, ite_true, ite_false, Bool.false_eq_true, Bool.true_eq_false, Bool.not_true, Bool.not_false, decide_true, decide_false, decide_eq_true_eq, Sum.elim_inl, Sum.elim_inr, ne_eq, not_true, not_false_iff, reduceIte, reduceCtorEq, Bool.cond_true, Bool.cond_false]
  by_cases e : nI x = nI y <;> simp [e]
theorem M_touch_v {A μ} (h : MR A μ) (w : WF A) (a b : Int32) : ∃ μ2, M_touch a b μ = some (sTouch A a b, μ2) ∧ ag pM μ μ2 := by
  have hn := w.n6
  refine ⟨si μ 62 10 (nI 0), ?_, ag_62 (by omega)⟩
  have h' : MR A (si μ 62 10 (nI 0)) := h.agM (ag_62 (by omega))
  unfold M_touch sTouch
  rw [thr0]
  simp only [Option.bind_some, m_isField h' w]
  cases h1 : inR a A.n
  · simp
  cases h2 : inR b A.n
  · simp
  obtain ⟨x, hx, rfl⟩ := inR_t h1
  obtain ⟨y, hy, rfl⟩ := inR_t h2
  simp only [li_6, pk_mul, nI_add, ldA_n (show 6 * x + y < 36 by omega) (show 36 ≤ 5000 by omega), h'.hto hx hy, nI_clamp (show x < 2 ^ 31 by omega), nI_clamp (show y < 2 ^ 31 by omega), Option.bind_some, Option.bind_none, if_true, if_false, ite_true, ite_false, Bool.false_eq_true, Bool.true_eq_false, Bool.not_true, Bool.not_false, decide_true, decide_false, decide_eq_true_eq, Sum.elim_inl, Sum.elim_inr, ne_eq, not_true, not_false_iff, reduceIte, reduceCtorEq, Bool.cond_true, Bool.cond_false]
  by_cases e : nI x = nI y <;> simp [e]
def sPerson (A : LV) (p w : Int32) : Int32 := if inR p A.p = true ∧ inR w 4 = true then (if w = 0 then iI (A.co p.toNatClampNeg) else if w = 1 then oN (A.ki p.toNatClampNeg) else if w = 2 then nI (bs (fun f => decide (A.ow f = p.toNatClampNeg + 1)) A.n) else nI (wow A A.ow p.toNatClampNeg)) else -1
theorem N_person_v {A μ} (h : CR 1 A μ) (w : WF A) (p x : Int32) : N_person p x μ = some (sPerson A p x) := by
  have hn := w.n6
  have hp := w.p3
  unfold N_person sPerson
  rw [c_isPerson h w]
  cases h1 : inR p A.p
  · simp
  obtain ⟨a, ha, rfl⟩ := inR_t h1
  have k1 := w.kil ha
  have fb := c_fieldBits h w (o := a + 1) (by omega)
  rw [cl_s] at fb
  cases h2 : inR x 4
  · have e : ∀ k, k < 4 → ¬ x = nI k := fun k hk e => by
      rw [e, inR_n (by omega), decide_eq_false_iff_not] at h2; omega
    have e0 := e 0 (by omega); have e1 := e 1 (by omega); have e2 := e 2 (by omega); have e3 := e 3 (by omega)
    simp only [li_0, li_1, li_2, li_3, if_neg e0, if_neg e1, if_neg e2, if_neg e3, Option.bind_some, Option.bind_none, if_true, if_false, ite_true, ite_false, Bool.false_eq_true, Bool.true_eq_false, Bool.not_true, Bool.not_false, decide_true, decide_false, decide_eq_true_eq, Sum.elim_inl, Sum.elim_inr, ne_eq, not_true, not_false_iff, reduceIte, reduceCtorEq, Bool.cond_true, Bool.cond_false]
    simp
  obtain ⟨y, hy, rfl⟩ := inR_t h2
  simp only [c_coinsOf h w ha, c_kinOf h w ha, fb, c_worthOwned h w ha, orNone_v (show A.ki a ≤ 3 by omega), nI_clamp (show a < 2 ^ 31 by omega), Option.bind_some, Option.bind_none, if_true, if_false, ite_true, ite_false, Bool.false_eq_true, Bool.true_eq_false, Bool.not_true, Bool.not_false, decide_true, decide_false, decide_eq_true_eq, Sum.elim_inl, Sum.elim_inr, ne_eq, not_true, not_false_iff, reduceIte, reduceCtorEq, Bool.cond_true, Bool.cond_false, li_0, li_1, li_2, li_3, nI_eq (show y < 2 ^ 31 by omega) (show 0 < 2 ^ 31 by omega), nI_eq (show y < 2 ^ 31 by omega) (show 1 < 2 ^ 31 by omega), nI_eq (show y < 2 ^ 31 by omega) (show 2 < 2 ^ 31 by omega), nI_eq (show y < 2 ^ 31 by omega) (show 3 < 2 ^ 31 by omega)]
  rcases (by omega : y = 0 ∨ y = 1 ∨ y = 2 ∨ y = 3) with rfl | rfl | rfl | rfl <;> simp
theorem kinO {z : Nat} (hz : z ≤ 3) : (if iI ((z : Int) - 1) < nI 0 then some (-4) else some (iI ((z : Int) - 1))) = some (oN z) := by
  unfold oN
  rcases z with _ | z
  · rw [if_pos (by rw [iI_ltn (by omega) (by omega) (by omega)]; omega)]; rfl
  · rw [if_neg (by rw [iI_ltn (by omega) (by omega) (by omega)]; omega), if_neg (by omega), show ((z + 1 : Nat) : Int) - 1 = ((z : Nat) : Int) by omega, iI_nat]; rfl
theorem M_person_v {A μ} (h : MR A μ) (w : WF A) (p x : Int32) : ∃ μ2, M_person p x μ = some (sPerson A p x, μ2) ∧ ag pM μ μ2 := by
  have hn := w.n6
  have hp := w.p3
  have g0 : ag pM μ (si μ 62 10 (nI 0)) := ag_62 (by omega)
  have h' : MR A (si μ 62 10 (nI 0)) := h.agM g0
  obtain ⟨m, e, ho, g⟩ := m_takeNow h' w
  have g1 := ag_tr g0 (ag_69 g)
  have h2' : MR A m := h.agM g1
  unfold M_person sPerson
  rw [thr0]
  simp only [Option.bind_some, m_isPerson h' w, M_in3]
  cases h1 : inR p A.p
  · exact ⟨_, by simp, g0⟩
  cases h2 : inR x 4
  · exact ⟨_, by simp, g0⟩
  refine ⟨m, ?_, g1⟩
  obtain ⟨a, ha, rfl⟩ := inR_t h1
  obtain ⟨y, hy, rfl⟩ := inR_t h2
  have k1 := w.kil ha
  simp only [e, ldA_n (show a < 3 by omega) (show 3 ≤ 5000 by omega), h2'.hco ha, h2'.hki ha, m_ownedBy h2' w ha, m_worthOf h2' w ho ha, nI_clamp (show a < 2 ^ 31 by omega), Option.bind_some, Option.bind_none, if_true, if_false, ite_true, ite_false, Bool.false_eq_true, Bool.true_eq_false, Bool.not_true, Bool.not_false, decide_true, decide_false, decide_eq_true_eq, Sum.elim_inl, Sum.elim_inr, ne_eq, not_true, not_false_iff, reduceIte, reduceCtorEq, Bool.cond_true, Bool.cond_false, li_0, li_1, li_2, kinO (show A.ki a ≤ 3 by omega), nI_eq (show y < 2 ^ 31 by omega) (show 0 < 2 ^ 31 by omega), nI_eq (show y < 2 ^ 31 by omega) (show 1 < 2 ^ 31 by omega), nI_eq (show y < 2 ^ 31 by omega) (show 2 < 2 ^ 31 by omega)]
  rcases (by omega : y = 0 ∨ y = 1 ∨ y = 2 ∨ y = 3) with rfl | rfl | rfl | rfl <;> simp
def sWorth (A : LV) (p f : Int32) : Int32 := if inR p A.p = true ∧ inR f A.n = true then nI (A.wo p.toNatClampNeg f.toNatClampNeg) else -1
theorem N_worth_v {A μ} (h : CR 1 A μ) (w : WF A) (p f : Int32) : N_worth p f μ = some (sWorth A p f) := by
  have hn := w.n6
  have hp := w.p3
  unfold N_worth sWorth
  rw [c_isPerson h w, c_isField h w]
  cases h1 : inR p A.p
  · simp
  cases h2 : inR f A.n
  · simp
  obtain ⟨x, hx, rfl⟩ := inR_t h1
  obtain ⟨y, hy, rfl⟩ := inR_t h2
  simp only [c_worthTo' h w hx hy, nI_clamp (show x < 2 ^ 31 by omega), nI_clamp (show y < 2 ^ 31 by omega), Option.bind_some, Option.bind_none, if_true, if_false, ite_true, ite_false, Bool.false_eq_true, Bool.true_eq_false, Bool.not_true, Bool.not_false, decide_true, decide_false, decide_eq_true_eq, Sum.elim_inl, Sum.elim_inr, ne_eq, not_true, not_false_iff, reduceIte, reduceCtorEq, Bool.cond_true, Bool.cond_false]
  simp
theorem M_worth_v {A μ} (h : MR A μ) (w : WF A) (p f : Int32) : ∃ μ2, M_worth p f μ = some (sWorth A p f, μ2) ∧ ag pM μ μ2 := by
  have hn := w.n6
  have hp := w.p3
  refine ⟨si μ 62 10 (nI 0), ?_, ag_62 (by omega)⟩
  have h' : MR A (si μ 62 10 (nI 0)) := h.agM (ag_62 (by omega))
  unfold M_worth sWorth
  rw [thr0]
  simp only [Option.bind_some, m_isField h' w, m_isPerson h' w]
  cases h1 : inR p A.p
  · simp
  cases h2 : inR f A.n
  · simp
  obtain ⟨x, hx, rfl⟩ := inR_t h1
  obtain ⟨y, hy, rfl⟩ := inR_t h2
  simp only [li_6, pk_mul, nI_add, ldA_n (show 6 * x + y < 18 by omega) (show 18 ≤ 5000 by omega), h'.hwo hx hy, nI_clamp (show x < 2 ^ 31 by omega), nI_clamp (show y < 2 ^ 31 by omega), Option.bind_some, Option.bind_none, if_true, if_false, ite_true, ite_false, Bool.false_eq_true, Bool.true_eq_false, Bool.not_true, Bool.not_false, decide_true, decide_false, decide_eq_true_eq, Sum.elim_inl, Sum.elim_inr, ne_eq, not_true, not_false_iff, reduceIte, reduceCtorEq, Bool.cond_true, Bool.cond_false]
  simp
def sLawful (A : LV) : Int32 := if lw A A.ow = true then 1 else 0
theorem N_lawful_v {A μ} (h : CR 1 A μ) (w : WF A) : N_lawful μ = some (sLawful A) := by
  unfold N_lawful sLawful
  rw [c_isLawful h w]
  cases lw A A.ow <;> simp
theorem M_lawful_v {A μ} (h : MR A μ) (w : WF A) : ∃ μ2, M_lawful μ = some (sLawful A, μ2) ∧ ag pM μ μ2 := by
  have g0 : ag pM μ (si μ 62 10 (nI 0)) := ag_62 (by omega)
  have h' : MR A (si μ 62 10 (nI 0)) := h.agM g0
  obtain ⟨m, e, ho, g⟩ := m_takeNow h' w
  have g1 := ag_tr g0 (ag_69 g)
  have h2' : MR A m := h.agM g1
  refine ⟨m, ?_, g1⟩
  unfold M_lawful sLawful
  rw [thr0]
  simp only [Option.bind_some, e, m_isFine h2' w ho]
  cases lw A A.ow <;> simp
def sFirst (A : LV) : Int32 := (fo A A.ow).elim (-4) (fun k => nI k)
theorem N_firstUnlawful_v {A μ} (h : CR 1 A μ) (w : WF A) : N_firstUnlawful μ = some (sFirst A) := by
  unfold N_firstUnlawful sFirst
  have e := c_firstOffence h w (B := 0) (by decide)
  rw [msk_0] at e
  rw [li_0, e]; rfl
theorem M_firstUnlawful_v {A μ} (h : MR A μ) (w : WF A) : ∃ μ2, M_firstUnlawful μ = some (sFirst A, μ2) ∧ ag pM μ μ2 := by
  have hn := w.n6
  have g0 : ag pM μ (si μ 62 10 (nI 0)) := ag_62 (by omega)
  have h' : MR A (si μ 62 10 (nI 0)) := h.agM g0
  obtain ⟨m, e, ho, g⟩ := m_takeNow h' w
  have g1 := ag_tr g0 (ag_69 g)
  have h2' : MR A m := h.agM g1
  refine ⟨m, ?_, g1⟩
  unfold M_firstUnlawful sFirst
  have inner : ∀ a, a < A.n → lp (M_firstUnlawful_s2 m (nI a)) FUEL (nI (a + 1)) = some ((fnd (fun j => bad A A.ow a (a + 1 + j)) (A.n - (a + 1))).elim (.inl ()) (fun j => .inr (nI (10 * a + (a + 1 + j)), m))) := by
    intro a ha
    refine lp_fnd (fun j => nI (a + 1 + j)) (fun j => bad A A.ow a (a + 1 + j)) _ _ (A.n - (a + 1)) (by omega) (fun k hk hq => ?_) (fun k hk hq => ?_) ?_
    · simp only [M_firstUnlawful_s2, h2'.hn, if_pos (nI_lt (show a + 1 + k < A.n by omega) (show A.n < 2 ^ 31 by omega)), m_areApart h2' w ho ha (show a + 1 + k < A.n by omega), hq, Option.bind_some, Option.bind_none, if_true, if_false, ite_true, ite_false, Bool.false_eq_true, Bool.true_eq_false, Bool.not_true, Bool.not_false, decide_true, decide_false, decide_eq_true_eq, Sum.elim_inl, Sum.elim_inr, ne_eq, not_true, not_false_iff, reduceIte, reduceCtorEq, Bool.cond_true, Bool.cond_false, li_1, nI_add] <;> rfl
    · simp only [M_firstUnlawful_s2, h2'.hn, if_pos (nI_lt (show a + 1 + k < A.n by omega) (show A.n < 2 ^ 31 by omega)), m_areApart h2' w ho ha (show a + 1 + k < A.n by omega), hq, Option.bind_some, Option.bind_none, if_true, if_false, ite_true, ite_false, Bool.false_eq_true, Bool.true_eq_false, Bool.not_true, Bool.not_false, decide_true, decide_false, decide_eq_true_eq, Sum.elim_inl, Sum.elim_inr, ne_eq, not_true, not_false_iff, reduceIte, reduceCtorEq, Bool.cond_true, Bool.cond_false, li_10, pk_mul, nI_add]
    · simp only [M_firstUnlawful_s2, h2'.hn, if_neg (nI_nlt (show A.n ≤ a + 1 + (A.n - (a + 1)) by omega) (show a + 1 + (A.n - (a + 1)) < 2 ^ 31 by omega))]
  have outer : lp (M_firstUnlawful_s1 m) FUEL 0 = some ((fnd (fun a => (fnd (fun j => bad A A.ow a (a + 1 + j)) (A.n - (a + 1))).isSome) A.n).elim (.inl ()) (fun a => (fnd (fun j => bad A A.ow a (a + 1 + j)) (A.n - (a + 1))).elim (.inl ()) (fun j => .inr (nI (10 * a + (a + 1 + j)), m)))) := by
    refine lp_fnd (fun j => nI j) (fun a => (fnd (fun j => bad A A.ow a (a + 1 + j)) (A.n - (a + 1))).isSome) _ _ A.n (by omega) (fun k hk hp => ?_) (fun k hk hp => ?_) ?_
    · simp only [M_firstUnlawful_s1, h2'.hn, if_pos (nI_lt hk (show A.n < 2 ^ 31 by omega)), li_1, nI_add, Option.bind_some, inner k hk]
      cases hq : fnd (fun j => bad A A.ow k (k + 1 + j)) (A.n - (k + 1))
      · rfl
      · rw [hq] at hp; cases hp
    · simp only [M_firstUnlawful_s1, h2'.hn, if_pos (nI_lt hk (show A.n < 2 ^ 31 by omega)), li_1, nI_add, Option.bind_some, inner k hk]
      cases hq : fnd (fun j => bad A A.ow k (k + 1 + j)) (A.n - (k + 1))
      · rw [hq] at hp; cases hp
      · rfl
    · simp only [M_firstUnlawful_s1, h2'.hn, if_neg (nI_nlt (Nat.le_refl A.n) (show A.n < 2 ^ 31 by omega))]
  rw [thr0]
  simp only [Option.bind_some, e, outer]
  unfold fo
  rcases fnd (fun a => (fnd (fun j => bad A A.ow a (a + 1 + j)) (A.n - (a + 1))).isSome) A.n with _ | a
  · rfl
  · rcases hq : fnd (fun j => bad A A.ow a (a + 1 + j)) (A.n - (a + 1)) with _ | j
    · simp only [Option.elim_some, hq, Option.elim_none, Option.bind_some, Option.bind_none, if_true, if_false, ite_true, ite_false, Bool.false_eq_true, Bool.true_eq_false, Bool.not_true, Bool.not_false, decide_true, decide_false, decide_eq_true_eq, Sum.elim_inl, Sum.elim_inr, ne_eq, not_true, not_false_iff, reduceIte, reduceCtorEq, Bool.cond_true, Bool.cond_false]
    · simp only [Option.elim_some, hq, Option.bind_some, Option.bind_none, if_true, if_false, ite_true, ite_false, Bool.false_eq_true, Bool.true_eq_false, Bool.not_true, Bool.not_false, decide_true, decide_false, decide_eq_true_eq, Sum.elim_inl, Sum.elim_inr, ne_eq, not_true, not_false_iff, reduceIte, reduceCtorEq, Bool.cond_true, Bool.cond_false]
