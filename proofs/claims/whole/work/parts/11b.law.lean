/-! ===== law, owns, count ===== -/
def pN (a j : Nat) : Prop := pC a j ∨ (1 ≤ a ∧ a ≤ 7)
def pR (a j : Nat) : Prop := pM a j ∨ (62 ≤ a ∧ a ≤ 68 ∧ a ≠ 65 ∧ ¬ (a = 62 ∧ j = 37))
theorem INV.both {μ μ1 μ2 : MI} (h : INV μ) (g1 : ag pN μ μ1) (g2 : ag pR μ1 μ2) {A : LV} (w : WF A) (c : CO A) (k1 : CR 1 A μ1) (k2 : MR A μ2) : INV μ2 :=
  h.land (ag_tr (ag_mo g1 (fun a j q => by unfold pN pC at q; unfold pL pC pM; omega)) (ag_mo g2 (fun a j q => by unfold pR pM at q; unfold pL pC pM; omega))) w c (k1.tg g2 (fun a j h1 h2 q => by unfold pR pM at q; omega)) k2 (fun q hq => by rw [g2.1 65 q (by unfold pR pM; omega), g1.1 65 q (by unfold pN pC; omega)]; exact h.2.1.1.1 q hq)
theorem MR.agN {A μ μ1} (h : MR A μ) (g : ag pN μ μ1) : MR A μ1 := h.tg g (fun a j q => by unfold pN pC at q; unfold pM; omega)
def LV.lwv (A : LV) (c k : Bool) : LV := (A.n, A.p, c, k, A.ac, A.ow, A.to, A.co, A.ki, A.wo)
def LV.gv (A : LV) (f o : Nat) : LV := (A.n, A.p, A.C, A.K, A.ac, fun k => if k = f then o else A.ow k, A.to, A.co, A.ki, A.wo)
theorem WF.lwv {A : LV} (w : WF A) (c k : Bool) : WF (A.lwv c k) := w
theorem WF.gv {A : LV} (w : WF A) {f o : Nat} (ho : o ≤ A.p) : WF (A.gv f o) := by
  refine ⟨w.1, w.2.1, w.2.2.1, fun k hk => ?_, w.2.2.2.2⟩
  show (if k = f then o else A.ow k) ≤ A.p
  split
  · exact ho
  · exact w.owl hk
theorem CR.lw0 {t A μ} (h : CR t A μ) (b : Bool) : CR t (A.lwv b A.K) (si μ t 2 (bI b)) := by
  have z : ∀ a, t < a → (si μ t 2 (bI b)).1 a = μ.1 a := fun a ha => si_ne (by omega)
  refine ⟨?_, ?_, ?_, ?_, ?_⟩
  · rw [si_at, if_neg (by omega)]; exact h.hn
  · rw [si_at, if_neg (by omega)]; exact h.hp
  · rw [si_at, if_pos rfl]; rfl
  · rw [si_at, if_neg (by omega)]; exact h.hK
  · rw [z _ (by omega), z _ (by omega), z _ (by omega), z _ (by omega), z _ (by omega), z _ (by omega)]; exact h.2.2.2.2
theorem CR.lw1 {t A μ} (h : CR t A μ) (b : Bool) : CR t (A.lwv A.C b) (si μ t 3 (bI b)) := by
  have z : ∀ a, t < a → (si μ t 3 (bI b)).1 a = μ.1 a := fun a ha => si_ne (by omega)
  refine ⟨?_, ?_, ?_, ?_, ?_⟩
  · rw [si_at, if_neg (by omega)]; exact h.hn
  · rw [si_at, if_neg (by omega)]; exact h.hp
  · rw [si_at, if_neg (by omega)]; exact h.hC
  · rw [si_at, if_pos rfl]; rfl
  · rw [z _ (by omega), z _ (by omega), z _ (by omega), z _ (by omega), z _ (by omega), z _ (by omega)]; exact h.2.2.2.2
theorem CR.gv {t A μ} (h : CR t A μ) {f o : Nat} : CR t (A.gv f o) (si μ (t + 2) f (nI (cl o))) := by
  have z : ∀ a, a ≠ t + 2 → (si μ (t + 2) f (nI (cl o))).1 a = μ.1 a := fun a ha => si_ne ha
  unfold CR
  rw [z t (by omega), z (t + 1) (by omega), z (t + 3) (by omega), z (t + 4) (by omega), z (t + 5) (by omega), z (t + 6) (by omega)]
  refine ⟨h.1, h.2.1, h.2.2.1, h.2.2.2.1, h.2.2.2.2.1, fun k hk => ?_, h.2.2.2.2.2.2⟩
  rw [si_at]
  show _ = nI (cl (if k = f then o else A.ow k))
  by_cases e : k = f
  · simp [e]
  · simp only [if_neg e]; exact h.how hk
theorem MR.gv {A μ} (h : MR A μ) {f o : Nat} : MR (A.gv f o) (si μ 68 f (nI o)) := by
  have z : ∀ a, a ≠ 68 → (si μ 68 f (nI o)).1 a = μ.1 a := fun a ha => si_ne ha
  unfold MR
  rw [z 62 (by omega), z 63 (by omega), z 64 (by omega), z 65 (by omega), z 66 (by omega), z 67 (by omega)]
  refine ⟨h.1, h.2.1, h.2.2.1, h.2.2.2.1, h.2.2.2.2.1, fun k hk => ?_, h.2.2.2.2.2.2⟩
  rw [si_at]
  show _ = nI (if k = f then o else A.ow k)
  by_cases e : k = f
  · simp [e]
  · simp only [if_neg e]; exact h.how hk
/-- an owner as it is told -/
def oc (x : Int32) : Nat := if x = 9 then 0 else x.toNatClampNeg + 1
def okO (x : Int32) (p : Nat) : Bool := decide (x = 9) || inR x p
theorem okO_t {x : Int32} {p : Nat} (h : okO x p = true) (hp : p ≤ 3) : oc x ≤ p ∧ x = nI (cl (oc x)) := by
  unfold okO at h
  unfold oc
  by_cases e : x = 9
  · rw [if_pos e, e]; exact ⟨Nat.zero_le _, rfl⟩
  · rw [if_neg e]
    rw [decide_eq_false e, Bool.false_or] at h
    obtain ⟨j, hj, rfl⟩ := inR_t h
    rw [nI_clamp (by omega), cl_s]
    exact ⟨hj, rfl⟩
theorem okO_n {o p : Nat} (h : o ≤ p) (hp : p ≤ 3) : okO (nI (cl o)) p = true := by
  unfold okO
  rcases o with _ | o
  · rfl
  · rw [cl_s, inR_n (by omega), decide_eq_true (show o < p by omega), Bool.or_true]
theorem oc_n {o : Nat} (h : o ≤ 3) : oc (nI (cl o)) = o := by
  unfold oc
  rcases o with _ | o
  · rfl
  · rw [cl_s, if_neg (show ¬ nI o = 9 from by rw [li_9, nI_eq (by omega) (by omega)]; omega), nI_clamp (by omega)]
theorem c_give {t A μ} (h : CR t A μ) (w : WF A) (x y : Int32) : Land_give t x y μ = some (if okO x A.p = true ∧ inR y A.n = true then (true, si μ (t + 2) y.toNatClampNeg (nI (cl (oc x)))) else (false, μ)) := by
  have hn := w.n6
  unfold Land_give
  rw [c_isOwner h w, c_isField h w]
  show ((some (okO x A.p)).bind _).bind _ = _
  cases h1 : okO x A.p
  · simp
  cases h2 : inR y A.n
  · simp
  obtain ⟨f, hf, rfl⟩ := inR_t h2
  obtain ⟨o1, o2⟩ := okO_t h1 w.p3
  simp only [Option.bind_some, Option.bind_none, if_true, if_false, ite_true, ite_false, Bool.false_eq_true, Bool.true_eq_false, Bool.not_true, Bool.not_false, decide_true, decide_false, decide_eq_true_eq, Sum.elim_inl, Sum.elim_inr, ne_eq, not_true, not_false_iff, reduceIte, reduceCtorEq, Bool.cond_true, Bool.cond_false, stA_n (show f < 6 by omega) (show 6 ≤ 5000 by omega), nI_clamp (show f < 2 ^ 31 by omega), and_self]
  rw [← o2]
theorem c_give' {t A μ} (h : CR t A μ) (w : WF A) {o f : Nat} (ho : o ≤ A.p) (hf : f < A.n) : Land_give t (nI (cl o)) (nI f) μ = some (true, si μ (t + 2) f (nI (cl o))) := by
  have hn := w.n6
  have hp := w.p3
  rw [c_give h w, okO_n ho hp, inR_n (by omega), decide_eq_true hf, oc_n (by omega), nI_clamp (by omega)]
  simp
def sLaw (A : LV) (x y : Int32) : Int32 × LV := if inR x 2 = true ∧ inR y 2 = true then (if x = 0 then (bI A.C, A.lwv (decide (y = 1)) A.K) else (bI A.K, A.lwv A.C (decide (y = 1)))) else (-1, A)
theorem N_law_v {A μ} (h : CR 1 A μ) (x y : Int32) : ∃ μ1, N_law x y μ = some ((sLaw A x y).1, μ1) ∧ CR 1 (sLaw A x y).2 μ1 ∧ ag pN μ μ1 := by
  have r1 := rng_c (x := y) (c := 1) (by omega)
  unfold N_law sLaw
  simp only [li_0, li_1]
  rw [r1]
  have e : (if x < nI 0 then some true else if nI 1 < x then some true else some (!inR y (1 + 1))) = some (!(inR x 2 && inR y 2)) := by
    have r2 := rng_c (x := x) (c := 1) (by omega)
    by_cases g1 : x < nI 0
    · rw [if_pos g1] at r2 ⊢
      have := oi r2
      cases hx : inR x 2
      · rfl
      · rw [hx] at this; cases this
    · rw [if_neg g1] at r2 ⊢
      by_cases g2 : nI 1 < x
      · rw [if_pos g2]
        rw [decide_eq_true g2] at r2
        have := oi r2
        cases hx : inR x 2
        · rfl
        · rw [hx] at this; cases this
      · rw [if_neg g2]
        rw [decide_eq_false g2] at r2
        have := oi r2
        cases hx : inR x 2
        · rw [hx] at this; cases this
        · rfl
  rw [e]
  cases h1 : inR x 2
  · exact ⟨μ, by simp, by simpa using h, ag_rf _ _⟩
  cases h2 : inR y 2
  · exact ⟨μ, by simp, by simpa using h, ag_rf _ _⟩
  simp only [Option.bind_some, Option.bind_none, if_true, if_false, ite_true, ite_false, Bool.false_eq_true, Bool.true_eq_false, Bool.not_true, Bool.not_false, decide_true, decide_false, decide_eq_true_eq, Sum.elim_inl, Sum.elim_inr, ne_eq, not_true, not_false_iff, reduceIte, reduceCtorEq, Bool.cond_true, Bool.cond_false, Bool.and_self, and_self, ldZ_b h.hC, ldZ_b h.hK, Land_setLaw, li_0]
  by_cases g : x = nI 0
  · simp only [if_pos g, stZ, Option.bind_some, Option.bind_none, if_true, if_false, ite_true, ite_false, Bool.false_eq_true, Bool.true_eq_false, Bool.not_true, Bool.not_false, decide_true, decide_false, decide_eq_true_eq, Sum.elim_inl, Sum.elim_inr, ne_eq, not_true, not_false_iff, reduceIte, reduceCtorEq, Bool.cond_true, Bool.cond_false]
    refine ⟨_, ?_, h.lw0 _, ag_si (Or.inr (by omega))⟩
    cases A.C <;> rfl
  · simp only [if_neg g, stZ, Option.bind_some, Option.bind_none, if_true, if_false, ite_true, ite_false, Bool.false_eq_true, Bool.true_eq_false, Bool.not_true, Bool.not_false, decide_true, decide_false, decide_eq_true_eq, Sum.elim_inl, Sum.elim_inr, ne_eq, not_true, not_false_iff, reduceIte, reduceCtorEq, Bool.cond_true, Bool.cond_false]
    refine ⟨_, ?_, h.lw1 _, ag_si (Or.inr (by omega))⟩
    cases A.K <;> rfl
theorem bI_of {y : Int32} (h : inR y 2 = true) : y = bI (decide (y = 1)) := by
  obtain ⟨j, hj, rfl⟩ := inR_t h
  rcases (by omega : j = 0 ∨ j = 1) with rfl | rfl <;> decide
theorem M_law_v {A μ} (h : MR A μ) (x y : Int32) : ∃ μ2, M_law x y μ = some ((sLaw A x y).1, μ2) ∧ MR (sLaw A x y).2 μ2 ∧ ag pR μ μ2 := by
  have g0 : ag pM μ (si μ 62 10 (nI 0)) := ag_62 (by omega)
  have h' : MR A (si μ 62 10 (nI 0)) := h.agM g0
  have g0' : ag pR μ (si μ 62 10 (nI 0)) := ag_mo g0 (fun a j q => Or.inl q)
  unfold M_law sLaw
  rw [thr0]
  simp only [Option.bind_some, M_in1]
  cases h1 : inR x 2
  · exact ⟨_, by simp, by simpa using h', g0'⟩
  cases h2 : inR y 2
  · exact ⟨_, by simp, by simpa using h', g0'⟩
  have hy := bI_of h2
  obtain ⟨j, hj, rfl⟩ := inR_t h1
  rcases (by omega : j = 0 ∨ j = 1) with rfl | rfl
  · refine ⟨si (si (si μ 62 10 (nI 0)) 62 3 y) 62 4 (bI A.K), ?_, ?_, ?_⟩
    · have e : (nI 0 = nI 1) = False := eq_false (by rw [nI_eq (by omega) (by omega)]; omega)
      simp only [Option.bind_some, Option.bind_none, if_true, if_false, ite_true, ite_false, Bool.false_eq_true, Bool.true_eq_false, Bool.not_true, Bool.not_false, decide_true, decide_false, decide_eq_true_eq, Sum.elim_inl, Sum.elim_inr, ne_eq, not_true, not_false_iff, reduceIte, reduceCtorEq, Bool.cond_true, Bool.cond_false, li_0, li_1, e, stF, and_self]
      rw [h'.hC, si_v, if_neg (by omega), h'.hK]
    · refine ⟨?_, ?_, ?_, ?_, ?_⟩
      · simp only [si_v]; simp; exact h.hn
      · simp only [si_v]; simp; exact h.hp
      · simp only [si_v]; simp; exact hy
      · simp only [si_v]; simp; rfl
      · simp only [si_v]; simp; exact h.2.2.2.2
    · exact ag_st (ag_st g0' (Or.inr (by omega))) (Or.inr (by omega))
  · refine ⟨si (si (si μ 62 10 (nI 0)) 62 3 (bI A.C)) 62 4 y, ?_, ?_, ?_⟩
    · have e : (nI 1 = nI 0) = False := eq_false (by rw [nI_eq (by omega) (by omega)]; omega)
      simp only [Option.bind_some, Option.bind_none, if_true, if_false, ite_true, ite_false, Bool.false_eq_true, Bool.true_eq_false, Bool.not_true, Bool.not_false, decide_true, decide_false, decide_eq_true_eq, Sum.elim_inl, Sum.elim_inr, ne_eq, not_true, not_false_iff, reduceIte, reduceCtorEq, Bool.cond_true, Bool.cond_false, li_0, li_1, e, stF, and_self]
      rw [h'.hC, h'.hK]
    · refine ⟨?_, ?_, ?_, ?_, ?_⟩
      · simp only [si_v]; simp; exact h.hn
      · simp only [si_v]; simp; exact h.hp
      · simp only [si_v]; simp; rfl
      · simp only [si_v]; simp; exact hy
      · simp only [si_v]; simp; exact h.2.2.2.2
    · exact ag_st (ag_st g0' (Or.inr (by omega))) (Or.inr (by omega))
theorem sLaw_wf {A} (w : WF A) (x y : Int32) : WF (sLaw A x y).2 := by
  unfold sLaw; split
  · split <;> exact w
  · exact w
theorem sLaw_co {A} (w : CO A) (x y : Int32) : CO (sLaw A x y).2 := by
  unfold sLaw; split
  · split <;> exact w
  · exact w
def sOwns (A : LV) (x y : Int32) : Int32 × LV := if okO x A.p = true ∧ inR y A.n = true then (nI (cl (A.ow y.toNatClampNeg)), A.gv y.toNatClampNeg (oc x)) else (-1, A)
theorem N_owns_v {A μ} (h : CR 1 A μ) (w : WF A) (x y : Int32) : ∃ μ1, N_owns x y μ = some ((sOwns A x y).1, μ1) ∧ CR 1 (sOwns A x y).2 μ1 ∧ ag pN μ μ1 := by
  have hn := w.n6
  unfold N_owns sOwns
  rw [c_isOwner h w, c_isField h w, c_give h w]
  show ∃ μ1, ((some (okO x A.p)).bind _).bind _ = _ ∧ _
  cases h1 : okO x A.p
  · exact ⟨μ, by simp, by simpa using h, ag_rf _ _⟩
  cases h2 : inR y A.n
  · exact ⟨μ, by simp, by simpa using h, ag_rf _ _⟩
  obtain ⟨f, hf, rfl⟩ := inR_t h2
  simp only [Option.bind_some, Option.bind_none, if_true, if_false, ite_true, ite_false, Bool.false_eq_true, Bool.true_eq_false, Bool.not_true, Bool.not_false, decide_true, decide_false, decide_eq_true_eq, Sum.elim_inl, Sum.elim_inr, ne_eq, not_true, not_false_iff, reduceIte, reduceCtorEq, Bool.cond_true, Bool.cond_false, and_self, c_ownerOf h w hf, nI_clamp (show f < 2 ^ 31 by omega)]
  exact ⟨_, rfl, h.gv, ag_si (Or.inr (by omega))⟩
theorem owC {o : Nat} (ho : o ≤ 3) : (if nI o = nI 0 then some (nI 9) else some (nI o - nI 1)) = some (nI (cl o)) := by
  rcases o with _ | o
  · rfl
  · rw [if_neg (by rw [nI_eq (by omega) (by omega)]; omega), pk_sub (by omega)]; rfl
theorem M_owns_v {A μ} (h : MR A μ) (w : WF A) (x y : Int32) : ∃ μ2, M_owns x y μ = some ((sOwns A x y).1, μ2) ∧ MR (sOwns A x y).2 μ2 ∧ ag pR μ μ2 := by
  have hn := w.n6
  have hp := w.p3
  have g0 : ag pM μ (si μ 62 10 (nI 0)) := ag_62 (by omega)
  have h' : MR A (si μ 62 10 (nI 0)) := h.agM g0
  have g0' : ag pR μ (si μ 62 10 (nI 0)) := ag_mo g0 (fun a j q => Or.inl q)
  unfold M_owns sOwns
  rw [thr0]
  simp only [Option.bind_some, m_isPerson h' w, m_isField h' w]
  have e : (if inR x A.p = true then some false else some (decide (x ≠ 9))) = some (!okO x A.p) := by
    unfold okO
    cases inR x A.p <;> by_cases g : x = 9 <;> simp [g]
  rw [e]
  cases h1 : okO x A.p
  · exact ⟨_, by simp, by simpa using h', g0'⟩
  cases h2 : inR y A.n
  · exact ⟨_, by simp, by simpa using h', g0'⟩
  obtain ⟨f, hf, rfl⟩ := inR_t h2
  obtain ⟨o1, o2⟩ := okO_t h1 hp
  have o3 := w.owl hf
  have e2 : (if x = nI 9 then some (nI 0) else some (x + nI 1)) = some (nI (oc x)) := by
    unfold oc
    by_cases g : x = 9
    · rw [if_pos g, if_pos (show x = nI 9 from g)]
    · rw [if_neg g, if_neg (show ¬ x = nI 9 from g)]
      unfold okO at h1
      rw [decide_eq_false g, Bool.false_or] at h1
      obtain ⟨j, hj, rfl⟩ := inR_t h1
      rw [nI_clamp (by omega), nI_add]
  simp only [Option.bind_some, Option.bind_none, if_true, if_false, ite_true, ite_false, Bool.false_eq_true, Bool.true_eq_false, Bool.not_true, Bool.not_false, decide_true, decide_false, decide_eq_true_eq, Sum.elim_inl, Sum.elim_inr, ne_eq, not_true, not_false_iff, reduceIte, reduceCtorEq, Bool.cond_true, Bool.cond_false, and_self, li_0, li_1, li_9, ldA_n (show f < 6 by omega) (show 6 ≤ 5000 by omega), h'.how hf, nI_clamp (show f < 2 ^ 31 by omega), e2, stA_n (show f < 6 by omega) (show 6 ≤ 5000 by omega), owC (show A.ow f ≤ 3 by omega)]
  exact ⟨_, rfl, h'.gv, ag_st g0' (Or.inr (by omega))⟩
theorem sOwns_wf {A} (w : WF A) (x y : Int32) : WF (sOwns A x y).2 := by
  unfold sOwns; split
  · rename_i q; exact w.gv (okO_t q.1 w.p3).1
  · exact w
theorem sOwns_co {A} (w : CO A) (x y : Int32) : CO (sOwns A x y).2 := by
  unfold sOwns; split
  · exact w
  · exact w
