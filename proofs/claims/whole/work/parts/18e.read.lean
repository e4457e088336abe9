/-! ===== land: what a text says ===== -/
def dgt (s : Nat → Nat) (i : Nat) : Bool := decide (48 ≤ s i ∧ s i ≤ 57)
def nl (s : Nat → Nat) : Nat → Nat → Nat → Nat × Nat
  | 0, v, i => (v, i)
  | r + 1, v, i => if (decide (0 < v) && dgt s i) = true then nl s r (10 * v + (s i - 48)) (i + 1) else (v, i)
def isL (L : Nat) : Bool := decide (L = 99 ∨ L = 102 ∨ L = 104 ∨ L = 111 ∨ L = 112 ∨ L = 119 ∨ L = 120)
def fnn_ (s : Nat → Nat) (j a b c : Nat) : Bool × Nat × Nat × Nat × Nat := (decide (s j = 59), if s j = 59 then j + 1 else j, a, b, c)
def ptw (s : Nat → Nat) (i : Nat) : Bool × Nat × Nat × Nat × Nat :=
  if dgt s (i + 2) = false then (false, i + 2, 0, 0, 0)
  else if s i = 104 then (if s (i + 3) = 108 then fnn_ s (i + 4) (s (i + 1) - 48) (s (i + 2) - 48) 2 else fnn_ s (i + 3) (s (i + 1) - 48) (s (i + 2) - 48) 1)
  else if s i = 119 then (if s (i + 3) = 32 then (if dgt s (i + 4) = true then fnn_ s (nl s 1 (s (i + 4) - 48) (i + 5)).2 (s (i + 1) - 48) (s (i + 2) - 48) (nl s 1 (s (i + 4) - 48) (i + 5)).1 else (false, i + 4, 0, 0, 0)) else (false, i + 3, 0, 0, 0))
  else fnn_ s (i + 3) (s (i + 1) - 48) (s (i + 2) - 48) (if s i = 99 then 3 else 0)
def ppe (s : Nat → Nat) (i : Nat) : Bool × Nat × Nat × Nat × Nat :=
  if s (nl s 2 (s (i + 1) - 48) (i + 2)).2 = 107 then (if dgt s ((nl s 2 (s (i + 1) - 48) (i + 2)).2 + 1) = true then fnn_ s ((nl s 2 (s (i + 1) - 48) (i + 2)).2 + 2) (nl s 2 (s (i + 1) - 48) (i + 2)).1 (s ((nl s 2 (s (i + 1) - 48) (i + 2)).2 + 1) - 48 + 1) 0 else (false, (nl s 2 (s (i + 1) - 48) (i + 2)).2 + 1, 0, 0, 0))
  else fnn_ s (nl s 2 (s (i + 1) - 48) (i + 2)).2 (nl s 2 (s (i + 1) - 48) (i + 2)).1 0 0
/-- one statement from the place i: is it one, the place behind it or of the first sign that can't be, its numbers -/
def pst (s : Nat → Nat) (i : Nat) : Bool × Nat × Nat × Nat × Nat :=
  if isL (s i) = false then (false, i, 0, 0, 0)
  else if dgt s (i + 1) = false then (false, i + 1, 0, 0, 0)
  else if s i = 102 then fnn_ s (i + 2) (s (i + 1) - 48) 0 0
  else if s i = 112 then ppe s i
  else ptw s i
theorem nl_b (s : Nat → Nat) : ∀ (r v i d : Nat), v < 10 ^ d → (nl s r v i).1 < 10 ^ (d + r) ∧ i ≤ (nl s r v i).2 ∧ (nl s r v i).2 ≤ i + r
  | 0, v, i, d, h => ⟨h, Nat.le_refl _, Nat.le_refl _⟩
  | r + 1, v, i, d, h => by
    unfold nl
    by_cases c : (decide (0 < v) && dgt s i) = true
    · rw [if_pos c]
      rw [Bool.and_eq_true] at c
      have c2 := c.2
      unfold dgt at c2
      rw [decide_eq_true_eq] at c2
      have := nl_b s r (10 * v + (s i - 48)) (i + 1) (d + 1) (by rw [Nat.pow_succ]; omega)
      rw [show d + (r + 1) = d + 1 + r by omega]
      omega
    · rw [if_neg c]
      have : 10 ^ d ≤ 10 ^ (d + (r + 1)) := Nat.pow_le_pow_right (by decide) (by omega)
      exact ⟨by show v < _; omega, Nat.le_refl _, Nat.le_add_right _ _⟩
/-! signs as they are read -/
def Rel (v : Int32) (n : Nat) : Prop := n ≤ 127 ∧ (0 < n → v = nI n) ∧ (n = 0 → v.toInt ≤ 0 ∨ 128 ≤ v.toInt)
theorem rel_eq {v : Int32} {n c : Nat} (h : Rel v n) (h0 : 0 < c) (hc : c < 128) : (v = nI c) = (n = c) := by
  obtain ⟨h1, h2, h3⟩ := h
  by_cases z : n = 0
  · apply propext
    constructor
    · intro q
      have := h3 z
      rw [q, nI_toInt (by omega)] at this
      omega
    · intro q; omega
  · rw [h2 (by omega), nI_eq (by omega) (by omega)]
theorem rel_dig {v : Int32} {n : Nat} (h : Rel v n) : ((48 : Int32) ≤ v ∧ v ≤ 57) ↔ (48 ≤ n ∧ n ≤ 57) := by
  obtain ⟨h1, h2, h3⟩ := h
  rw [Int32.le_iff_toInt_le, Int32.le_iff_toInt_le]
  show 48 ≤ v.toInt ∧ v.toInt ≤ 57 ↔ _
  by_cases z : n = 0
  · have := h3 z
    omega
  · rw [h2 (by omega), nI_toInt (by omega)]
    omega
theorem c_isDigit {v : Int32} {n : Nat} (h : Rel v n) : LandReader_isDigit v = some (decide (48 ≤ n ∧ n ≤ 57)) := by
  have e := rel_dig h
  unfold LandReader_isDigit
  by_cases z : (48 : Int32) ≤ v
  · rw [if_pos z]
    simp only [Option.bind_some]
    congr 1
    exact decide_eq_decide.mpr ⟨fun q => e.mp ⟨z, q⟩, fun q => (e.mpr q).2⟩
  · rw [if_neg z, decide_eq_false (fun q => z (e.mpr q).1)]; rfl
theorem m_inDigit {v : Int32} {n : Nat} (h : Rel v n) : M_in v.toInt64 48 57 = some (decide (48 ≤ n ∧ n ≤ 57)) := by
  have e := rel_dig h
  have h1 := v.toInt_lt
  have h2 := v.le_toInt
  have a1 : ((48 : Int64) ≤ v.toInt64) = ((48 : Int32) ≤ v) := by
    rw [Int64.le_iff_toInt_le, Int32.toInt_toInt64, Int32.le_iff_toInt_le]; rfl
  have a2 : (v.toInt64 ≤ (57 : Int64)) = (v ≤ (57 : Int32)) := by
    rw [Int64.le_iff_toInt_le, Int32.toInt_toInt64, Int32.le_iff_toInt_le]; rfl
  unfold M_in
  simp only [a1, a2]
  by_cases z : (48 : Int32) ≤ v
  · rw [if_pos z]
    simp only [Option.bind_some]
    congr 1
    exact decide_eq_decide.mpr ⟨fun q => e.mp ⟨z, q⟩, fun q => (e.mpr q).2⟩
  · rw [if_neg z, decide_eq_false (fun q => z (e.mpr q).1)]; rfl
/-! the class reads -/
def TX (s : Nat → Nat) (tx : Nat) (m : MI) : Prop := ∀ i, i < 1000 → ∃ v, Shelf_at tx (nI i) m = some v ∧ Rel v (s i)
theorem TX.fr {s : Nat → Nat} {tx : Nat} {m m' : MI} (h : TX s tx m) (q : ag (fun a _ => a = 23) m m') (ht : 24 ≤ tx) : TX s tx m' := fun i hi => by
  obtain ⟨v, h1, h2⟩ := h i hi
  refine ⟨v, ?_, h2⟩
  rw [← h1]
  have e : ∀ a j, 24 ≤ a → m'.1 a j = m.1 a j := fun a j z => q.1 a j (by omega)
  unfold Shelf_at ldA
  rw [e tx 2 ht, e (tx + 2) (nI i).toNatClampNeg (by omega)]
theorem lp_go {σ ρ : Type} {step : σ → Option (σ ⊕ ρ)} {n : Nat} {s s' : σ} (h : step s = some (.inl s')) : lp step (n + 1) s = lp step n s' := by
  show (match step s with | none => none | some (.inl s') => lp step n s' | some (.inr r) => some r) = _
  rw [h]
theorem lp_out {σ ρ : Type} {step : σ → Option (σ ⊕ ρ)} {n : Nat} {s : σ} {r : ρ} (h : step s = some (.inr r)) : lp step (n + 1) s = some r := by
  show (match step s with | none => none | some (.inl s') => lp step n s' | some (.inr r) => some r) = _
  rw [h]
theorem fuel3 : FUEL = 49997 + 1 + 1 + 1 := rfl
theorem c_sign {s : Nat → Nat} {tx i c : Nat} {m : MI} (h : TX s tx m) (e : m.1 23 0 = nI i) (hi : i < 1000) (h0 : 0 < c) (hc : c < 128) : LandReader_takeSign tx (nI c) m = some (decide (s i = c), if s i = c then si m 23 0 (nI (i + 1)) else m) := by
  obtain ⟨v, h1, h2⟩ := h i hi
  have q := rel_eq h2 h0 hc
  unfold LandReader_takeSign
  rw [e, h1]
  simp only [Option.bind_some, stF]
  by_cases z : s i = c
  · rw [if_neg (show ¬ v ≠ nI c from fun y => y (q.mpr z)), if_pos z, decide_eq_true z, li_1, nI_add]
  · rw [if_pos (show v ≠ nI c from fun y => z (q.mp y)), if_neg z, decide_eq_false z]
def dgm (j i v : Nat) (m : MI) : MI := si (si m 23 j (nI v)) 23 0 (nI (i + 1))
theorem c_digS {s : Nat → Nat} {tx i k n : Nat} {m : MI} (h : TX s tx m) (e : m.1 23 0 = nI i) (hi : i < 1000) (hk : k < n) (hn : n < 10) : LandReader_takeDigits_s1 (nI n) tx (nI k, m) = if dgt s i = true then some (.inl (nI (k + 1), dgm (if k = 0 then 2 else 3) i (s i - 48) m)) else some (.inr (.inr (false, m))) := by
  obtain ⟨v, h1, h2⟩ := h i hi
  unfold LandReader_takeDigits_s1
  simp only []
  rw [if_pos (nI_lt hk (by omega)), e, h1]
  simp only [Option.bind_some]
  rw [c_isDigit h2]
  simp only [Option.bind_some]
  by_cases z : dgt s i = true
  · have z2 : 48 ≤ s i ∧ s i ≤ 57 := by unfold dgt at z; exact of_decide_eq_true z
    have ev : v - 48 = nI (s i - 48) := by rw [h2.2.1 (by omega), li_48, pk_sub z2.1]
    rw [if_pos z, decide_eq_true z2, ev]
    simp only [if_true, stF, Option.bind_some]
    by_cases y : k = 0
    · rw [if_pos (show nI k = 0 from by rw [y]; rfl), if_pos y]
      simp only [Option.bind_some]
      rw [si_at, if_neg (by omega), e, li_1, nI_add, nI_add]
      rfl
    · rw [if_neg (show ¬ nI k = 0 from ne_lit (k := 0) (by omega) (by omega) y), if_neg y]
      simp only [Option.bind_some]
      rw [si_at, if_neg (by omega), e, li_1, nI_add, nI_add]
      rfl
  · have z2 : ¬ (48 ≤ s i ∧ s i ≤ 57) := fun q => z (by unfold dgt; exact decide_eq_true q)
    rw [if_neg z, decide_eq_false z2]
    simp only [Bool.false_eq_true, if_false]
theorem c_digE {tx n : Nat} {m : MI} (hn : n < 10) : LandReader_takeDigits_s1 (nI n) tx (nI n, m) = some (.inr (.inl m)) := by
  unfold LandReader_takeDigits_s1
  simp only []
  rw [if_neg (nI_nlt (Nat.le_refl _) (by omega))]
theorem dgm_0 (j i v : Nat) (m : MI) : (dgm j i v m).1 23 0 = nI (i + 1) := by unfold dgm; rw [si_at, if_pos rfl]
theorem dgm_ag (j i v : Nat) (m : MI) : ag (fun a k => a = 23 ∧ (k = 0 ∨ k = j)) m (dgm j i v m) := ag_st (ag_si ⟨rfl, Or.inr rfl⟩) ⟨rfl, Or.inl rfl⟩
theorem dgm_ag1 (j i v : Nat) (m : MI) : ag (fun a _ => a = 23) m (dgm j i v m) := ag_mo (dgm_ag j i v m) fun _ _ q => q.1
theorem dgm_j {j i v : Nat} {m : MI} (hj : j ≠ 0) : (dgm j i v m).1 23 j = nI v := by unfold dgm; rw [si_at, if_neg hj, si_at, if_pos rfl]
theorem c_dig1 {s : Nat → Nat} {tx i : Nat} {m : MI} (h : TX s tx m) (e : m.1 23 0 = nI i) (hi : i < 1000) : LandReader_takeDigits tx 1 m = some (dgt s i, if dgt s i = true then dgm 2 i (s i - 48) m else m) := by
  unfold LandReader_takeDigits
  rw [fuel3]
  have s1 := c_digS (n := 1) (k := 0) h e hi (by omega) (by omega)
  by_cases z : dgt s i = true
  · rw [if_pos z] at s1
    have e1 : lp (LandReader_takeDigits_s1 1 tx) (49997 + 1 + 1 + 1) (0, m) = some (.inl (dgm 2 i (s i - 48) m)) := (lp_go s1).trans (lp_out (c_digE (n := 1) (by omega)))
    rw [e1, if_pos z, z]; rfl
  · rw [if_neg z] at s1
    have e1 : lp (LandReader_takeDigits_s1 1 tx) (49997 + 1 + 1 + 1) (0, m) = some (.inr (false, m)) := lp_out s1
    rw [e1, if_neg z, Bool.eq_false_iff.mpr z]; rfl
theorem c_dig2 {s : Nat → Nat} {tx i : Nat} {m : MI} (h : TX s tx m) (ht : 24 ≤ tx) (e : m.1 23 0 = nI i) (hi : i + 1 < 1000) : LandReader_takeDigits tx 2 m = some (dgt s i && dgt s (i + 1), if dgt s i = true then (if dgt s (i + 1) = true then dgm 3 (i + 1) (s (i + 1) - 48) (dgm 2 i (s i - 48) m) else dgm 2 i (s i - 48) m) else m) := by
  unfold LandReader_takeDigits
  rw [fuel3]
  have s1 := c_digS (n := 2) (k := 0) h e (show i < 1000 by omega) (by omega) (by omega)
  by_cases z : dgt s i = true
  · rw [if_pos z] at s1
    have h' : TX s tx (dgm 2 i (s i - 48) m) := h.fr (dgm_ag1 _ _ _ _) ht
    have s2 := c_digS (n := 2) (k := 1) h' (dgm_0 _ _ _ _) hi (by omega) (by omega)
    by_cases y : dgt s (i + 1) = true
    · rw [if_pos y] at s2
      have e1 : lp (LandReader_takeDigits_s1 2 tx) (49997 + 1 + 1 + 1) (0, m) = some (.inl (dgm 3 (i + 1) (s (i + 1) - 48) (dgm 2 i (s i - 48) m))) := (lp_go s1).trans ((lp_go s2).trans (lp_out (c_digE (n := 2) (by omega))))
      rw [e1, if_pos z, if_pos y, z, y]; rfl
    · rw [if_neg y] at s2
      have e1 : lp (LandReader_takeDigits_s1 2 tx) (49997 + 1 + 1 + 1) (0, m) = some (.inr (false, dgm 2 i (s i - 48) m)) := (lp_go s1).trans (lp_out s2)
      rw [e1, if_pos z, if_neg y, z, Bool.eq_false_iff.mpr y]; rfl
  · rw [if_neg z] at s1
    have e1 : lp (LandReader_takeDigits_s1 2 tx) (49997 + 1 + 1 + 1) (0, m) = some (.inr (false, m)) := lp_out s1
    rw [e1, if_neg z, Bool.eq_false_iff.mpr z]; rfl
theorem c_figL {s : Nat → Nat} {tx M : Nat} (ht : 24 ≤ tx) (hM : M ≤ 3) : ∀ (r v i d F : Nat) (m : MI), TX s tx m → m.1 23 0 = nI i → m.1 23 4 = nI v → v < 10 ^ d → i + r < 1000 → d + r = M → 1 ≤ d → r < F → ∃ d' m', lp (LandReader_takeFigure_s1 (nI M) tx) F (nI d, m) = some (nI d', m') ∧ 1 ≤ d' ∧ d' ≤ M ∧ m'.1 23 0 = nI (nl s r v i).2 ∧ m'.1 23 4 = nI (nl s r v i).1 ∧ ag (fun a j => a = 23 ∧ (j = 0 ∨ j = 4)) m m'
  | 0, v, i, d, F + 1, m, _, e0, e4, _, _, hd, h1, _ => by
    have : d = M := by omega
    subst this
    refine ⟨d, m, lp_out ?_, h1, Nat.le_refl _, e0, e4, ag_rf _ _⟩
    unfold LandReader_takeFigure_s1
    simp only []
    rw [if_neg (nI_nlt (Nat.le_refl _) (by omega))]
    simp only [Option.bind_some, Bool.false_eq_true, if_false]
  | r + 1, v, i, d, F + 1, m, hT, e0, e4, hv, hi, hd, h1, hF => by
    obtain ⟨x, x1, x2⟩ := hT i (by omega)
    have v3 : v < 1000 := Nat.lt_of_lt_of_le hv (show 10 ^ d ≤ 10 ^ 3 from Nat.pow_le_pow_right (by decide) (by omega))
    have c : ((if nI d < nI M then ((Shelf_at tx (m.1 23 0) m).bind fun r35 => (LandReader_isDigit r35).bind fun b38 => if b38 = true then (if nI d = 0 then some true else some (decide (0 < m.1 23 4))) else some false) else some false) : Option Bool) = some (decide (0 < v) && dgt s i) := by
      rw [if_pos (nI_lt (by omega) (by omega)), e0, x1]
      simp only [Option.bind_some]
      rw [c_isDigit x2, e4]
      simp only [Option.bind_some]
      rw [if_neg (show ¬ nI d = 0 from ne_lit (k := 0) (by omega) (by omega) (by omega))]
      have : decide ((0 : Int32) < nI v) = decide (0 < v) := decide_eq_decide.mpr (by rw [li_0, nI_ltI (by omega) (by omega)])
      rw [this]
      unfold dgt
      cases decide (48 ≤ s i ∧ s i ≤ 57) <;> cases decide (0 < v) <;> rfl
    by_cases z : (decide (0 < v) && dgt s i) = true
    · have z' := z
      rw [Bool.and_eq_true] at z'
      have z2 : 48 ≤ s i ∧ s i ≤ 57 := by have := z'.2; unfold dgt at this; exact of_decide_eq_true this
      have ev : 10 * nI v + x - 48 = nI (10 * v + (s i - 48)) := by
        rw [x2.2.1 (by omega), li_10, li_48, pk_mul, nI_add, pk_sub (by omega)]
        congr 1; omega
      have st : LandReader_takeFigure_s1 (nI M) tx (nI d, m) = some (.inl (nI (d + 1), dgm 4 i (10 * v + (s i - 48)) m)) := by
        unfold LandReader_takeFigure_s1
        simp only []
        rw [c, z]
        simp only [Option.bind_some, if_true]
        rw [e0, x1]
        simp only [Option.bind_some, stF]
        rw [e4, ev, si_at, if_neg (by omega), e0, li_1, nI_add, nI_add]
        rfl
      obtain ⟨d', m', u1, u2, u3, u4, u5, u6⟩ := c_figL (s := s) ht hM r (10 * v + (s i - 48)) (i + 1) (d + 1) F (dgm 4 i (10 * v + (s i - 48)) m) (hT.fr (dgm_ag1 _ _ _ _) ht) (dgm_0 _ _ _ _) (dgm_j (by omega)) (by rw [Nat.pow_succ]; omega) (by omega) (by omega) (by omega) (by omega)
      have e : nl s (r + 1) v i = nl s r (10 * v + (s i - 48)) (i + 1) := by
        show (if (decide (0 < v) && dgt s i) = true then _ else _) = _
        rw [if_pos z]
      rw [e]
      exact ⟨d', m', (lp_go st).trans u1, u2, u3, u4, u5, ag_tr (dgm_ag _ _ _ _) u6⟩
    · have st : LandReader_takeFigure_s1 (nI M) tx (nI d, m) = some (.inr (nI d, m)) := by
        unfold LandReader_takeFigure_s1
        simp only []
        rw [c, Bool.eq_false_iff.mpr z]
        simp only [Option.bind_some, Bool.false_eq_true, if_false]
      have e : nl s (r + 1) v i = (v, i) := by
        show (if (decide (0 < v) && dgt s i) = true then _ else _) = _
        rw [if_neg z]
      rw [e]
      exact ⟨d, m, lp_out st, h1, by omega, e0, e4, ag_rf _ _⟩
theorem c_fig {s : Nat → Nat} {tx M i : Nat} {m : MI} (ht : 24 ≤ tx) (hM : M ≤ 3) (h1 : 1 ≤ M) (h : TX s tx m) (e0 : m.1 23 0 = nI i) (hi : i + 5 < 1000) : ∃ m', LandReader_takeFigure tx (nI M) m = some (dgt s i, m') ∧ ag (fun a j => a = 23 ∧ (j = 0 ∨ j = 4)) m m' ∧ (dgt s i = false → m'.1 23 0 = nI i) ∧ (dgt s i = true → m'.1 23 0 = nI (nl s (M - 1) (s i - 48) (i + 1)).2 ∧ m'.1 23 4 = nI (nl s (M - 1) (s i - 48) (i + 1)).1) := by
  unfold LandReader_takeFigure
  simp only [stF, Option.bind_some]
  have g0 : ag (fun a j => a = 23 ∧ (j = 0 ∨ j = 4)) m (si m 23 4 0) := ag_si ⟨rfl, Or.inr rfl⟩
  have hT : TX s tx (si m 23 4 0) := h.fr (ag_mo g0 fun a j q => q.1) ht
  have f0 : (si m 23 4 0).1 23 0 = nI i := by rw [si_at, if_neg (by omega)]; exact e0
  have f4 : (si m 23 4 0).1 23 4 = nI 0 := by rw [si_at, if_pos rfl]; rfl
  obtain ⟨x, x1, x2⟩ := hT i (by omega)
  have c : ((if nI 0 < nI M then ((Shelf_at tx ((si m 23 4 0).1 23 0) (si m 23 4 0)).bind fun r35 => (LandReader_isDigit r35).bind fun b38 => if b38 = true then (if nI 0 = 0 then some true else some (decide (0 < (si m 23 4 0).1 23 4))) else some false) else some false) : Option Bool) = some (dgt s i) := by
    rw [if_pos (nI_lt (by omega) (by omega)), f0, x1]
    simp only [Option.bind_some]
    rw [c_isDigit x2]
    simp only [Option.bind_some]
    rw [if_pos (show nI 0 = 0 from rfl)]
    unfold dgt
    cases decide (48 ≤ s i ∧ s i ≤ 57) <;> rfl
  by_cases z : dgt s i = true
  · have z2 : 48 ≤ s i ∧ s i ≤ 57 := by have := z; unfold dgt at this; exact of_decide_eq_true this
    have ev : 10 * nI 0 + x - 48 = nI (s i - 48) := by
      rw [x2.2.1 (by omega), li_10, li_48, pk_mul, nI_add, pk_sub (by omega)]
      congr 1; omega
    have st : LandReader_takeFigure_s1 (nI M) tx (nI 0, si m 23 4 0) = some (.inl (nI 1, dgm 4 i (s i - 48) (si m 23 4 0))) := by
      unfold LandReader_takeFigure_s1
      simp only []
      rw [c, z]
      simp only [Option.bind_some, if_true]
      rw [f0, x1]
      simp only [Option.bind_some, stF]
      rw [f4, ev, si_at, if_neg (by omega), f0, li_1, nI_add, nI_add]
      rfl
    obtain ⟨d', m', u1, u2, u3, u4, u5, u6⟩ := c_figL (s := s) ht hM (M - 1) (s i - 48) (i + 1) 1 (49997 + 1 + 1) (dgm 4 i (s i - 48) (si m 23 4 0)) (hT.fr (dgm_ag1 _ _ _ _) ht) (dgm_0 _ _ _ _) (dgm_j (by omega)) (by omega) (by omega) (by omega) (by omega) (by omega)
    have e1 : lp (LandReader_takeFigure_s1 (nI M) tx) FUEL (0, si m 23 4 0) = some (nI d', m') := by
      rw [fuel3]
      exact (lp_go st).trans u1
    rw [e1]
    simp only [Option.bind_some]
    rw [decide_eq_true (show (0 : Int32) < nI d' from by rw [li_0]; exact nI_lt (by omega) (by omega)), z]
    exact ⟨m', rfl, ag_tr g0 (ag_tr (dgm_ag _ _ _ _) u6), fun q => (by cases q), fun _ => ⟨u4, u5⟩⟩
  · have st : LandReader_takeFigure_s1 (nI M) tx (nI 0, si m 23 4 0) = some (.inr (nI 0, si m 23 4 0)) := by
      unfold LandReader_takeFigure_s1
      simp only []
      rw [c, Bool.eq_false_iff.mpr z]
      simp only [Option.bind_some, Bool.false_eq_true, if_false]
    have e1 : lp (LandReader_takeFigure_s1 (nI M) tx) FUEL (0, si m 23 4 0) = some (nI 0, si m 23 4 0) := by
      rw [fuel3]
      exact lp_out st
    rw [e1]
    simp only [Option.bind_some]
    rw [decide_eq_false (show ¬ (0 : Int32) < nI 0 by decide), Bool.eq_false_iff.mpr z]
    exact ⟨_, rfl, g0, fun _ => f0, fun q => (by cases q)⟩
