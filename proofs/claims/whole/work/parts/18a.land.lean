/-! ===== land: what a statement does ===== -/
def LV.af (A : LV) (a : Nat) : LV := (A.n + 1, A.p, A.C, A.K, fun f => if f = A.n then a else A.ac f, fun f => if f = A.n then 0 else A.ow f, A.to, A.co, A.ki, fun q f => if f = A.n then 10 * a else A.wo q f)
def LV.ap (A : LV) (c k : Nat) : LV := (A.n, A.p + 1, A.C, A.K, A.ac, A.ow, A.to, fun q => if q = A.p then (c : Int) else A.co q, fun q => if q = A.p then k else A.ki q, fun q f => if q = A.p then 10 * A.ac f else A.wo q f)
def LV.sw (A : LV) (q f v : Nat) : LV := (A.n, A.p, A.C, A.K, A.ac, A.ow, A.to, A.co, A.ki, fun x y => if x = q ∧ y = f then v else A.wo x y)
theorem WF.af {A : LV} (w : WF A) {a : Nat} (ha : 1 ≤ a ∧ a ≤ 9) (hn : A.n < 6) : WF (A.af a) := by
  refine ⟨show A.n + 1 ≤ 6 by omega, w.2.1, fun f hf => ?_, fun f hf => ?_, w.sy, w.t3, w.di, fun x y hy => ?_, w.2.2.2.2.2.2.2.2.1, fun q f hq hf => ?_⟩
  · have hf : f < A.n + 1 := hf
    show 1 ≤ (if f = A.n then a else A.ac f) ∧ (if f = A.n then a else A.ac f) ≤ 9
    by_cases e : f = A.n
    · rw [if_pos e]; exact ha
    · rw [if_neg e]; exact w.acl (by omega)
  · have hf : f < A.n + 1 := hf
    show (if f = A.n then 0 else A.ow f) ≤ A.p
    by_cases e : f = A.n
    · rw [if_pos e]; omega
    · rw [if_neg e]; exact w.owl (by omega)
  · have hy : A.n + 1 ≤ y := hy
    exact w.ou (by omega)
  · have hf : f < A.n + 1 := hf
    have hq : q < A.p := hq
    show (if f = A.n then 10 * a else A.wo q f) ≤ 99
    by_cases e : f = A.n
    · rw [if_pos e]; omega
    · rw [if_neg e]; exact w.wol hq (by omega)
theorem WF.ap {A : LV} (w : WF A) {c k : Nat} (hk : k ≤ A.p) (hp : A.p < 3) : WF (A.ap c k) := by
  refine ⟨w.1, show A.p + 1 ≤ 3 by omega, w.2.2.1, fun f hf => ?_, w.sy, w.t3, w.di, w.2.2.2.2.2.2.2.1, fun q hq => ?_, fun q f hq hf => ?_⟩
  · have := w.owl (f := f) hf
    show A.ow f ≤ A.p + 1
    omega
  · have hq : q < A.p + 1 := hq
    show (if q = A.p then k else A.ki q) ≤ A.p + 1
    by_cases e : q = A.p
    · rw [if_pos e]; omega
    · rw [if_neg e]
      have := w.kil (q := q) (by omega)
      omega
  · have hq : q < A.p + 1 := hq
    have hf : f < A.n := hf
    show (if q = A.p then 10 * A.ac f else A.wo q f) ≤ 99
    by_cases e : q = A.p
    · rw [if_pos e]
      have := w.acl hf
      omega
    · rw [if_neg e]; exact w.wol (by omega) hf
theorem WF.sw {A : LV} (w : WF A) {q f v : Nat} (hv : v ≤ 99) : WF (A.sw q f v) := by
  refine ⟨w.1, w.2.1, w.2.2.1, w.2.2.2.1, w.sy, w.t3, w.di, w.2.2.2.2.2.2.2.1, w.2.2.2.2.2.2.2.2.1, fun x y hx hy => ?_⟩
  show (if x = q ∧ y = f then v else A.wo x y) ≤ 99
  split
  · exact hv
  · exact w.wol hx hy
/-- a statement: its letter and its numbers; b of a person is 1 more than the kin, 0 where none is told; c of fields that touch is how -/
def stmt_ (A : LV) (L a b c : Nat) : Option LV :=
  if L = 102 then (if a = 0 ∨ A.n = 6 then none else some (A.af a))
  else if L = 112 then (if A.p < b ∨ A.p = 3 then none else some (A.ap a b))
  else if L = 120 then (if a < 2 ∧ b < 2 then some (A.lwv (decide (a = 1)) (decide (b = 1))) else none)
  else if L = 104 ∨ L = 99 then (if a < A.n ∧ b < A.n ∧ a ≠ b ∧ A.to a b = 0 then some (A.stt a b c) else none)
  else if L = 119 then (if a < A.p ∧ b < A.n then some (A.sw a b c) else none)
  else (if a < A.p ∧ b < A.n then some (A.gv b (a + 1)) else none)
/-- what numbers there can be -/
def BD (L a b c : Nat) : Prop := (L ≠ 112 → a ≤ 9) ∧ a ≤ 999 ∧ b ≤ 10 ∧ c ≤ 99 ∧ (L = 104 → c = 1 ∨ c = 2) ∧ (L = 99 → c = 3) ∧ (L = 102 ∨ L = 112 ∨ L = 120 ∨ L = 104 ∨ L = 99 ∨ L = 119 ∨ L = 111)
theorem stmt_wf {A B : LV} (w : WF A) (co : CO A) {L a b c : Nat} (hb : BD L a b c) (h : stmt_ A L a b c = some B) : WF B ∧ CO B := by
  obtain ⟨b1, b2, b3, b4, b5, b6, b7⟩ := hb
  have hn := w.n6
  have hp := w.p3
  unfold stmt_ at h
  by_cases e1 : L = 102
  · rw [if_pos e1] at h
    by_cases z : a = 0 ∨ A.n = 6
    · rw [if_pos z] at h; cases h
    · rw [if_neg z] at h
      cases h
      exact ⟨w.af (by omega) (by omega), co⟩
  rw [if_neg e1] at h
  by_cases e2 : L = 112
  · rw [if_pos e2] at h
    by_cases z : A.p < b ∨ A.p = 3
    · rw [if_pos z] at h; cases h
    · rw [if_neg z] at h
      cases h
      refine ⟨w.ap (by omega) (by omega), fun q hq => ?_⟩
      have hq : q < A.p + 1 := hq
      show 0 ≤ (if q = A.p then (a : Int) else A.co q) ∧ (if q = A.p then (a : Int) else A.co q) ≤ 999
      by_cases e : q = A.p
      · rw [if_pos e]; omega
      · rw [if_neg e]; exact co q (by omega)
  rw [if_neg e2] at h
  by_cases e3 : L = 120
  · rw [if_pos e3] at h
    by_cases z : a < 2 ∧ b < 2
    · rw [if_pos z] at h
      cases h
      exact ⟨w.lwv _ _, co⟩
    · rw [if_neg z] at h; cases h
  rw [if_neg e3] at h
  by_cases e4 : L = 104 ∨ L = 99
  · rw [if_pos e4] at h
    by_cases z : a < A.n ∧ b < A.n ∧ a ≠ b ∧ A.to a b = 0
    · rw [if_pos z] at h
      cases h
      exact ⟨w.stt z.1 z.2.1 z.2.2.1 (by omega), co⟩
    · rw [if_neg z] at h; cases h
  rw [if_neg e4] at h
  by_cases e5 : L = 119
  · rw [if_pos e5] at h
    by_cases z : a < A.p ∧ b < A.n
    · rw [if_pos z] at h
      cases h
      exact ⟨w.sw b4, co⟩
    · rw [if_neg z] at h; cases h
  rw [if_neg e5] at h
  by_cases z : a < A.p ∧ b < A.n
  · rw [if_pos z] at h
    cases h
    exact ⟨w.gv (by omega), co⟩
  · rw [if_neg z] at h; cases h
/-! the class's -/
def p8 (a _j : Nat) : Prop := 8 ≤ a ∧ a ≤ 14
theorem c_setWorth {t : Nat} {A : LV} {μ : MI} (h : CR t A μ) (w : WF A) {q f : Nat} (hq : q < 10) (hf : f < 10) (x : Int32) : Land_setWorth t (nI q) (nI f) x μ = some (if q < A.p ∧ f < A.n then (true, si μ (t + 6) (q * 6 + f) x) else (false, μ)) := by
  have hn := w.n6
  have hp := w.p3
  unfold Land_setWorth
  rw [c_isPerson h w, c_isField h w, inR_n (f := q) (by omega), inR_n (f := f) (by omega)]
  by_cases z1 : q < A.p
  · by_cases z2 : f < A.n
    · rw [decide_eq_true z1, decide_eq_true z2, if_pos ⟨z1, z2⟩]
      simp only [Option.bind_some, Option.bind_none, if_true, if_false, ite_true, ite_false, Bool.false_eq_true, Bool.true_eq_false, Bool.not_true, Bool.not_false, decide_true, decide_false, decide_eq_true_eq, Sum.elim_inl, Sum.elim_inr, ne_eq, not_true, not_false_iff, reduceIte, reduceCtorEq, Bool.cond_true, Bool.cond_false]
      rw [li_6, pk_mul, nI_add, stA_n (by omega) (by omega)]
      rfl
    · rw [decide_eq_true z1, decide_eq_false z2, if_neg (fun z => z2 z.2)]
      simp only [Option.bind_some, Option.bind_none, if_true, if_false, ite_true, ite_false, Bool.false_eq_true, Bool.true_eq_false, Bool.not_true, Bool.not_false, decide_true, decide_false, decide_eq_true_eq, Sum.elim_inl, Sum.elim_inr, ne_eq, not_true, not_false_iff, reduceIte, reduceCtorEq, Bool.cond_true, Bool.cond_false]
  · rw [decide_eq_false z1, if_neg (fun z => z1 z.1)]
    simp only [Option.bind_some, Option.bind_none, if_true, if_false, ite_true, ite_false, Bool.false_eq_true, Bool.true_eq_false, Bool.not_true, Bool.not_false, decide_true, decide_false, decide_eq_true_eq, Sum.elim_inl, Sum.elim_inr, ne_eq, not_true, not_false_iff, reduceIte, reduceCtorEq, Bool.cond_true, Bool.cond_false]
theorem CR.sw {t : Nat} {A : LV} {μ : MI} (h : CR t A μ) {q f v : Nat} (hq : q < 3) (hf : f < 6) (w : WF A) : CR t (A.sw q f v) (si μ (t + 6) (q * 6 + f) (nI v)) := by
  have z : ∀ a, a ≠ t + 6 → (si μ (t + 6) (q * 6 + f) (nI v)).1 a = μ.1 a := fun a ha => si_ne ha
  have hn := w.n6
  unfold CR
  rw [z t (by omega), z (t + 1) (by omega), z (t + 2) (by omega), z (t + 3) (by omega), z (t + 4) (by omega), z (t + 5) (by omega)]
  refine ⟨h.1, h.2.1, h.2.2.1, h.2.2.2.1, h.2.2.2.2.1, h.2.2.2.2.2.1, h.2.2.2.2.2.2.1, h.2.2.2.2.2.2.2.1, h.2.2.2.2.2.2.2.2.1, fun x y hx hy => ?_⟩
  have hy : y < A.n := hy
  rw [si_at]
  show _ = nI (if x = q ∧ y = f then v else A.wo x y)
  by_cases e : x = q ∧ y = f
  · rw [if_pos e, if_pos (by omega)]
  · rw [if_neg e, if_neg (by omega)]; exact h.hwo hx hy
theorem c_addField {t : Nat} {A : LV} {μ : MI} (h : CR t A μ) (w : WF A) {a : Nat} (ha : a ≤ 9) : ∃ m, Land_addField t (nI a) μ = some (!(decide (a = 0 ∨ A.n = 6)), m) ∧ ag (fun x _ => t ≤ x ∧ x ≤ t + 6) μ m ∧ (¬ (a = 0 ∨ A.n = 6) → CR t (A.af a) m) := by
  have hn := w.n6
  have hp := w.p3
  unfold Land_addField
  have c : (if nI a < 1 then some true else if (9 : Int32) < nI a then some true else if μ.1 t 0 < 0 then some true else some (decide ((6 : Int32) ≤ μ.1 t 0))) = some (decide (a = 0 ∨ A.n = 6)) := by
    rw [h.hn, li_1, li_9, li_6, li_0]
    by_cases z : a = 0
    · rw [if_pos (nI_lt (by omega) (by omega)), decide_eq_true (Or.inl z)]
    · rw [if_neg (nI_nlt (by omega) (by omega)), if_neg (nI_nlt (by omega) (by omega)), if_neg (nI_nlt (by omega) (by omega))]
      congr 1
      by_cases y : A.n = 6
      · rw [decide_eq_true (nI_le (by omega) (by omega)), decide_eq_true (Or.inr y)]
      · rw [decide_eq_false (nI_ge (by omega) (by omega)), decide_eq_false (show ¬ (a = 0 ∨ A.n = 6) by omega)]
  rw [c]
  simp only [Option.bind_some]
  by_cases z : a = 0 ∨ A.n = 6
  · rw [decide_eq_true z]
    exact ⟨μ, rfl, ag_rf _ _, fun y => absurd z y⟩
  · rw [decide_eq_false z]
    simp only [Option.bind_some, Option.bind_none, if_true, if_false, ite_true, ite_false, Bool.false_eq_true, Bool.true_eq_false, Bool.not_true, Bool.not_false, decide_true, decide_false, decide_eq_true_eq, Sum.elim_inl, Sum.elim_inr, ne_eq, not_true, not_false_iff, reduceIte, reduceCtorEq, Bool.cond_true, Bool.cond_false, stF]
    rw [h.hn]
    have n6 : A.n < 6 := by omega
    rw [stA_n n6 (by omega)]
    simp only [Option.bind_some]
    rw [stA_n n6 (by omega)]
    simp only [Option.bind_some]
    have e1 : nI A.n + 1 = nI (A.n + 1) := by rw [li_1, nI_add]
    rw [e1]
    generalize hm : si (si (si μ t 0 (nI (A.n + 1))) (t + 1) A.n (nI a)) (t + 2) A.n 9 = m0
    obtain ⟨m, u1, u2, u3, u4⟩ := lp_m (step := Land_addField_s1 t (nI A.n) (nI a)) (fun k m => ag (fun x _ => x = t + 6) m0 m ∧ (∀ q, q < k → m.1 (t + 6) (q * 6 + A.n) = nI (10 * a)) ∧ ∀ q f, f < A.n → m.1 (t + 6) (q * 6 + f) = m0.1 (t + 6) (q * 6 + f)) A.p (by omega) (μ := m0) ⟨ag_rf _ _, fun q hq => absurd hq (Nat.not_lt_zero _), fun _ _ _ => rfl⟩ (fun k m hk ⟨v1, v2, v3⟩ => by
      have f0 : m.1 t 0 = nI (A.n + 1) := by rw [v1.1 t 0 (by omega), ← hm, si_ne (by omega), si_ne (by omega), si_at, if_pos rfl]
      have f1 : m.1 t 1 = nI A.p := by rw [v1.1 t 1 (by omega), ← hm, si_ne (by omega), si_ne (by omega), si_at, if_neg (by omega)]; exact h.hp
      have ip : Land_isPerson t (nI k) m = some true := by
        unfold Land_isPerson
        rw [f1, if_pos (show (0 : Int32) ≤ nI k from by rw [li_0]; exact nI_le (Nat.zero_le _) (by omega)), if_pos (nI_lt hk (by omega)), decide_eq_true (show nI k < 3 from by rw [li_3]; exact nI_lt (by omega) (by omega))]
        rfl
      have fi : Land_isField t (nI A.n) m = some true := by
        unfold Land_isField
        rw [f0, if_pos (show (0 : Int32) ≤ nI A.n from by rw [li_0]; exact nI_le (Nat.zero_le _) (by omega)), if_pos (nI_lt (by omega) (by omega)), decide_eq_true (show nI A.n < 6 from by rw [li_6]; exact nI_lt (by omega) (by omega))]
        rfl
      refine ⟨si m (t + 6) (k * 6 + A.n) (nI (10 * a)), ?_, ag_st v1 rfl, fun q hq => ?_, fun q f hf => ?_⟩
      · have sw : Land_setWorth t (nI k) (nI A.n) (10 * nI a) m = some (true, si m (t + 6) (k * 6 + A.n) (nI (10 * a))) := by
          unfold Land_setWorth
          rw [ip, fi]
          simp only [Option.bind_some, Option.bind_none, if_true, if_false, ite_true, ite_false, Bool.false_eq_true, Bool.true_eq_false, Bool.not_true, Bool.not_false, decide_true, decide_false, decide_eq_true_eq, Sum.elim_inl, Sum.elim_inr, ne_eq, not_true, not_false_iff, reduceIte, reduceCtorEq, Bool.cond_true, Bool.cond_false]
          rw [li_6, li_10, pk_mul, pk_mul, nI_add, stA_n (by omega) (by omega)]
          rfl
        unfold Land_addField_s1
        simp only []
        rw [f1, if_pos (nI_lt hk (by omega)), sw]
        simp only [Option.bind_some, li_1, nI_add]
      · rw [si_at]
        by_cases e : q = k
        · rw [if_pos (by rw [e])]
        · rw [if_neg (by omega)]; exact v2 q (by omega)
      · rw [si_at, if_neg (by omega)]; exact v3 q f hf) (fun m ⟨v1, _⟩ => by
      have f1 : m.1 t 1 = nI A.p := by rw [v1.1 t 1 (by omega), ← hm, si_ne (by omega), si_ne (by omega), si_at, if_neg (by omega)]; exact h.hp
      simp only [Land_addField_s1, f1, if_neg (nI_nlt (Nat.le_refl _) (show A.p < 2 ^ 31 by omega))])
    rw [u1]
    simp only [Option.bind_some]
    have r : ∀ x j, x ≠ t + 6 → m.1 x j = m0.1 x j := fun x j q => u2.1 x j q
    refine ⟨m, rfl, ag_tr ?_ (ag_mo u2 (fun x j q => by omega)), fun _ => ?_⟩
    · rw [← hm]
      exact ag_st (ag_st (ag_si (by omega)) (by omega)) (by omega)
    · refine ⟨?_, ?_, ?_, ?_, fun f hf => ?_, fun f hf => ?_, fun x y hx hy => ?_, fun q hq => ?_, fun q hq => ?_, fun q f hq hf => ?_⟩
      · rw [r _ _ (by omega), ← hm, si_ne (by omega), si_ne (by omega), si_at, if_pos rfl]; rfl
      · rw [r _ _ (by omega), ← hm, si_ne (by omega), si_ne (by omega), si_at, if_neg (by omega)]; exact h.hp
      · rw [r _ _ (by omega), ← hm, si_ne (by omega), si_ne (by omega), si_at, if_neg (by omega)]; exact h.hC
      · rw [r _ _ (by omega), ← hm, si_ne (by omega), si_ne (by omega), si_at, if_neg (by omega)]; exact h.hK
      · have hf : f < A.n + 1 := hf
        rw [r _ _ (by omega), ← hm, si_ne (by omega), si_at]
        show _ = nI (if f = A.n then a else A.ac f)
        by_cases e : f = A.n
        · rw [if_pos e, if_pos e]
        · rw [if_neg e, if_neg e, si_ne (by omega)]; exact h.hac (by omega)
      · have hf : f < A.n + 1 := hf
        rw [r _ _ (by omega), ← hm, si_at]
        show _ = nI (cl (if f = A.n then 0 else A.ow f))
        by_cases e : f = A.n
        · rw [if_pos e, if_pos e]; rfl
        · rw [if_neg e, if_neg e, si_ne (by omega), si_ne (by omega)]; exact h.how (by omega)
      · rw [r _ _ (by omega), ← hm, si_ne (by omega), si_ne (by omega), si_ne (by omega)]; exact h.hto hx hy
      · rw [r _ _ (by omega), ← hm, si_ne (by omega), si_ne (by omega), si_ne (by omega)]; exact h.hco hq
      · rw [r _ _ (by omega), ← hm, si_ne (by omega), si_ne (by omega), si_ne (by omega)]; exact h.hki hq
      · have hf : f < A.n + 1 := hf
        have hq : q < A.p := hq
        show _ = nI (if f = A.n then 10 * a else A.wo q f)
        by_cases e : f = A.n
        · rw [if_pos e, e]; exact u3 q hq
        · rw [if_neg e, u4 q f (by omega), ← hm, si_ne (by omega), si_ne (by omega), si_ne (by omega)]; exact h.hwo hq (by omega)
theorem c_addPerson {t : Nat} {A : LV} {μ : MI} (h : CR t A μ) (w : WF A) {a b : Nat} (ha : a ≤ 999) (hb : b ≤ A.p) : ∃ m, Land_addPerson t (nI a) (nI (cl b)) μ = some (!(decide (A.p = 3)), m) ∧ ag (fun x _ => t ≤ x ∧ x ≤ t + 6) μ m ∧ (¬ A.p = 3 → CR t (A.ap a b) m) := by
  have hn := w.n6
  have hp := w.p3
  unfold Land_addPerson
  have io : Land_isOwner t (nI (cl b)) μ = some true := by
    rw [c_isOwner h w]
    congr 1
    rcases b with _ | b
    · rfl
    · rw [cl_s, inR_n (by omega), decide_eq_true (show b < A.p by omega), Bool.or_true]
  have c : (if μ.1 t 1 < 0 then some true else if (3 : Int32) ≤ μ.1 t 1 then some true else (Land_isOwner t (nI (cl b)) μ).bind fun b47 => some (!b47)) = some (decide (A.p = 3)) := by
    rw [io, h.hp, if_neg (nI_pos (by omega))]
    by_cases y : A.p = 3
    · rw [if_pos (by rw [li_3]; exact nI_le (by omega) (by omega)), decide_eq_true y]
    · rw [if_neg (by rw [li_3]; exact nI_ge (by omega) (by omega)), decide_eq_false y]; rfl
  rw [c]
  simp only [Option.bind_some]
  by_cases z : A.p = 3
  · rw [decide_eq_true z]
    exact ⟨μ, rfl, ag_rf _ _, fun y => absurd z y⟩
  · rw [decide_eq_false z]
    simp only [Option.bind_some, Option.bind_none, if_true, if_false, ite_true, ite_false, Bool.false_eq_true, Bool.true_eq_false, Bool.not_true, Bool.not_false, decide_true, decide_false, decide_eq_true_eq, Sum.elim_inl, Sum.elim_inr, ne_eq, not_true, not_false_iff, reduceIte, reduceCtorEq, Bool.cond_true, Bool.cond_false, stF]
    rw [h.hp]
    have n3 : A.p < 3 := by omega
    rw [stA_n n3 (by omega)]
    simp only [Option.bind_some]
    rw [stA_n n3 (by omega)]
    simp only [Option.bind_some]
    have e1 : nI A.p + 1 = nI (A.p + 1) := by rw [li_1, nI_add]
    rw [e1]
    generalize hm : si (si (si μ t 1 (nI (A.p + 1))) (t + 4) A.p (nI a)) (t + 5) A.p (nI (cl b)) = m0
    obtain ⟨m, u1, u2, u3, u4⟩ := lp_m (step := Land_addPerson_s1 t (nI A.p)) (fun k m => ag (fun x _ => x = t + 6) m0 m ∧ (∀ f, f < k → m.1 (t + 6) (A.p * 6 + f) = nI (10 * A.ac f)) ∧ ∀ q f, q < A.p → f < 6 → m.1 (t + 6) (q * 6 + f) = m0.1 (t + 6) (q * 6 + f)) A.n (by omega) (μ := m0) ⟨ag_rf _ _, fun q hq => absurd hq (Nat.not_lt_zero _), fun _ _ _ _ => rfl⟩ (fun k m hk ⟨v1, v2, v3⟩ => by
      have f0 : m.1 t 0 = nI A.n := by rw [v1.1 t 0 (by omega), ← hm, si_ne (by omega), si_ne (by omega), si_at, if_neg (by omega)]; exact h.hn
      have f1 : m.1 t 1 = nI (A.p + 1) := by rw [v1.1 t 1 (by omega), ← hm, si_ne (by omega), si_ne (by omega), si_at, if_pos rfl]
      have ip : Land_isPerson t (nI A.p) m = some true := by
        unfold Land_isPerson
        rw [f1, if_pos (show (0 : Int32) ≤ nI A.p from by rw [li_0]; exact nI_le (Nat.zero_le _) (by omega)), if_pos (nI_lt (by omega) (by omega)), decide_eq_true (show nI A.p < 3 from by rw [li_3]; exact nI_lt (by omega) (by omega))]
        rfl
      have fi : Land_isField t (nI k) m = some true := by
        unfold Land_isField
        rw [f0, if_pos (show (0 : Int32) ≤ nI k from by rw [li_0]; exact nI_le (Nat.zero_le _) (by omega)), if_pos (nI_lt (by omega) (by omega)), decide_eq_true (show nI k < 6 from by rw [li_6]; exact nI_lt (by omega) (by omega))]
        rfl
      have ac : Land_acresOf t (nI k) m = some (nI (A.ac k)) := by
        unfold Land_acresOf
        rw [fi]
        simp only [Option.bind_some, Option.bind_none, if_true, if_false, ite_true, ite_false, Bool.false_eq_true, Bool.true_eq_false, Bool.not_true, Bool.not_false, decide_true, decide_false, decide_eq_true_eq, Sum.elim_inl, Sum.elim_inr, ne_eq, not_true, not_false_iff, reduceIte, reduceCtorEq, Bool.cond_true, Bool.cond_false]
        rw [ldA_n (show k < 6 by omega) (by omega), v1.1 (t + 1) k (by omega), ← hm, si_ne (by omega), si_ne (by omega), si_ne (by omega), h.hac hk]
        rfl
      refine ⟨si m (t + 6) (A.p * 6 + k) (nI (10 * A.ac k)), ?_, ag_st v1 rfl, fun f hf => ?_, fun q f hq hf => ?_⟩
      · have sw : Land_setWorth t (nI A.p) (nI k) (10 * nI (A.ac k)) m = some (true, si m (t + 6) (A.p * 6 + k) (nI (10 * A.ac k))) := by
          unfold Land_setWorth
          rw [ip, fi]
          simp only [Option.bind_some, Option.bind_none, if_true, if_false, ite_true, ite_false, Bool.false_eq_true, Bool.true_eq_false, Bool.not_true, Bool.not_false, decide_true, decide_false, decide_eq_true_eq, Sum.elim_inl, Sum.elim_inr, ne_eq, not_true, not_false_iff, reduceIte, reduceCtorEq, Bool.cond_true, Bool.cond_false]
          rw [li_6, li_10, pk_mul, pk_mul, nI_add, stA_n (by omega) (by omega)]
          rfl
        unfold Land_addPerson_s1
        simp only []
        rw [f0, if_pos (nI_lt hk (by omega)), ac]
        simp only [Option.bind_some]
        rw [sw]
        simp only [Option.bind_some, li_1, nI_add]
      · rw [si_at]
        by_cases e : f = k
        · rw [if_pos (by rw [e]), e]
        · rw [if_neg (by omega)]; exact v2 f (by omega)
      · rw [si_at, if_neg (by omega)]; exact v3 q f hq hf) (fun m ⟨v1, _⟩ => by
      have f0 : m.1 t 0 = nI A.n := by rw [v1.1 t 0 (by omega), ← hm, si_ne (by omega), si_ne (by omega), si_at, if_neg (by omega)]; exact h.hn
      simp only [Land_addPerson_s1, f0, if_neg (nI_nlt (Nat.le_refl _) (show A.n < 2 ^ 31 by omega))])
    rw [u1]
    simp only [Option.bind_some]
    have r : ∀ x j, x ≠ t + 6 → m.1 x j = m0.1 x j := fun x j q => u2.1 x j q
    refine ⟨m, rfl, ag_tr ?_ (ag_mo u2 (fun x j q => by omega)), fun _ => ?_⟩
    · rw [← hm]
      exact ag_st (ag_st (ag_si (by omega)) (by omega)) (by omega)
    · refine ⟨?_, ?_, ?_, ?_, fun f hf => ?_, fun f hf => ?_, fun x y hx hy => ?_, fun q hq => ?_, fun q hq => ?_, fun q f hq hf => ?_⟩
      · rw [r _ _ (by omega), ← hm, si_ne (by omega), si_ne (by omega), si_at, if_neg (by omega)]; exact h.hn
      · rw [r _ _ (by omega), ← hm, si_ne (by omega), si_ne (by omega), si_at, if_pos rfl]; rfl
      · rw [r _ _ (by omega), ← hm, si_ne (by omega), si_ne (by omega), si_at, if_neg (by omega)]; exact h.hC
      · rw [r _ _ (by omega), ← hm, si_ne (by omega), si_ne (by omega), si_at, if_neg (by omega)]; exact h.hK
      · rw [r _ _ (by omega), ← hm, si_ne (by omega), si_ne (by omega), si_ne (by omega)]; exact h.hac hf
      · rw [r _ _ (by omega), ← hm, si_ne (by omega), si_ne (by omega), si_ne (by omega)]; exact h.how hf
      · rw [r _ _ (by omega), ← hm, si_ne (by omega), si_ne (by omega), si_ne (by omega)]; exact h.hto hx hy
      · have hq : q < A.p + 1 := hq
        rw [r _ _ (by omega), ← hm, si_ne (by omega), si_at]
        show _ = iI (if q = A.p then (a : Int) else A.co q)
        by_cases e : q = A.p
        · rw [if_pos e, if_pos e, iI_nat]
        · rw [if_neg e, if_neg e, si_ne (by omega)]; exact h.hco (by omega)
      · have hq : q < A.p + 1 := hq
        rw [r _ _ (by omega), ← hm, si_at]
        show _ = nI (cl (if q = A.p then b else A.ki q))
        by_cases e : q = A.p
        · rw [if_pos e, if_pos e]
        · rw [if_neg e, if_neg e, si_ne (by omega), si_ne (by omega)]; exact h.hki (by omega)
      · have hf : f < A.n := hf
        have hq : q < A.p + 1 := hq
        show _ = nI (if q = A.p then 10 * A.ac f else A.wo q f)
        by_cases e : q = A.p
        · rw [if_pos e, e]; exact u3 f hf
        · rw [if_neg e, u4 q f (by omega) (by omega), ← hm, si_ne (by omega), si_ne (by omega), si_ne (by omega)]; exact h.hwo (by omega) hf
