/-! ===== flood ===== -/
def LV.stt (A : LV) (a b h : Nat) : LV := (A.n, A.p, A.C, A.K, A.ac, A.ow, fun x y => if (x = a ∧ y = b) ∨ (x = b ∧ y = a) then h else A.to x y, A.co, A.ki, A.wo)
theorem WF.stt {A : LV} (w : WF A) {a b h : Nat} (ha : a < A.n) (hb : b < A.n) (hab : a ≠ b) (hh : h ≤ 3) : WF (A.stt a b h) := by
  refine ⟨w.1, w.2.1, w.2.2.1, w.2.2.2.1, fun x y => ?_, fun x y => ?_, fun x => ?_, fun x y hy => ?_, w.2.2.2.2.2.2.2.2⟩
  · show (if (x = a ∧ y = b) ∨ (x = b ∧ y = a) then h else A.to x y) = (if (y = a ∧ x = b) ∨ (y = b ∧ x = a) then h else A.to y x)
    by_cases g : (x = a ∧ y = b) ∨ (x = b ∧ y = a)
    · rw [if_pos g, if_pos (by omega)]
    · rw [if_neg g, if_neg (by omega), w.sy]
  · show (if (x = a ∧ y = b) ∨ (x = b ∧ y = a) then h else A.to x y) ≤ 3
    split
    · exact hh
    · exact w.t3 x y
  · show (if (x = a ∧ x = b) ∨ (x = b ∧ x = a) then h else A.to x x) = 0
    rw [if_neg (by omega)]; exact w.di x
  · show (if (x = a ∧ y = b) ∨ (x = b ∧ y = a) then h else A.to x y) = 0
    have hy : A.n ≤ y := hy
    rw [if_neg (by omega)]; exact w.ou hy
theorem CR.stt {t A μ} (h : CR t A μ) {a b v : Nat} (ha : a < 6) (hb : b < 6) : CR t (A.stt a b v) (si (si μ (t + 3) (a * 6 + b) (nI v)) (t + 3) (b * 6 + a) (nI v)) := by
  have z : ∀ c, c ≠ t + 3 → (si (si μ (t + 3) (a * 6 + b) (nI v)) (t + 3) (b * 6 + a) (nI v)).1 c = μ.1 c := fun c hc => by rw [si_ne hc, si_ne hc]
  unfold CR
  rw [z t (by omega), z (t + 1) (by omega), z (t + 2) (by omega), z (t + 4) (by omega), z (t + 5) (by omega), z (t + 6) (by omega)]
  refine ⟨h.1, h.2.1, h.2.2.1, h.2.2.2.1, h.2.2.2.2.1, h.2.2.2.2.2.1, fun x y hx hy => ?_, h.2.2.2.2.2.2.2⟩
  show _ = nI (if (x = a ∧ y = b) ∨ (x = b ∧ y = a) then v else A.to x y)
  rw [si_at]
  by_cases g1 : x = b ∧ y = a
  · rw [if_pos (by omega), if_pos (by omega)]
  · rw [if_neg (by omega), si_at]
    by_cases g2 : x = a ∧ y = b
    · rw [if_pos (by omega), if_pos (by omega)]
    · rw [if_neg (by omega), if_neg (by omega)]; exact h.hto hx hy
theorem MR.stt {A μ} (h : MR A μ) (w : WF A) {a b v : Nat} (ha : a < A.n) (hb : b < A.n) : MR (A.stt a b v) (si (si μ 64 (6 * a + b) (nI v)) 64 (6 * b + a) (nI v)) := by
  have hn := w.n6
  have z : ∀ c, c ≠ 64 → (si (si μ 64 (6 * a + b) (nI v)) 64 (6 * b + a) (nI v)).1 c = μ.1 c := fun c hc => by rw [si_ne hc, si_ne hc]
  unfold MR
  rw [z 62 (by omega), z 63 (by omega), z 65 (by omega), z 66 (by omega), z 67 (by omega), z 68 (by omega)]
  refine ⟨h.1, h.2.1, h.2.2.1, h.2.2.2.1, h.2.2.2.2.1, h.2.2.2.2.2.1, fun x y hx hy => ?_, h.2.2.2.2.2.2.2⟩
  have hx : x < A.n := hx
  have hy : y < A.n := hy
  show _ = nI (if (x = a ∧ y = b) ∨ (x = b ∧ y = a) then v else A.to x y)
  rw [si_at]
  by_cases g1 : x = b ∧ y = a
  · rw [if_pos (by omega), if_pos (by omega)]
  · rw [if_neg (by omega), si_at]
    by_cases g2 : x = a ∧ y = b
    · rw [if_pos (by omega), if_pos (by omega)]
    · rw [if_neg (by omega), if_neg (by omega)]; exact h.hto hx hy
theorem MR.back {A μ} {a b v : Nat} (h : MR (A.stt a b v) μ) (w : WF A) (ha : a < A.n) (hb : b < A.n) : MR A (si (si μ 64 (6 * a + b) (nI (A.to a b))) 64 (6 * b + a) (nI (A.to a b))) := by
  have hn := w.n6
  have z : ∀ c, c ≠ 64 → (si (si μ 64 (6 * a + b) (nI (A.to a b))) 64 (6 * b + a) (nI (A.to a b))).1 c = μ.1 c := fun c hc => by rw [si_ne hc, si_ne hc]
  unfold MR
  rw [z 62 (by omega), z 63 (by omega), z 65 (by omega), z 66 (by omega), z 67 (by omega), z 68 (by omega)]
  refine ⟨h.1, h.2.1, h.2.2.1, h.2.2.2.1, h.2.2.2.2.1, h.2.2.2.2.2.1, fun x y hx hy => ?_, h.2.2.2.2.2.2.2⟩
  rw [si_at]
  by_cases g1 : x = b ∧ y = a
  · rw [if_pos (by omega), g1.1, g1.2, w.sy]
  · rw [if_neg (by omega), si_at]
    by_cases g2 : x = a ∧ y = b
    · rw [if_pos (by omega), g2.1, g2.2]
    · rw [if_neg (by omega)]
      have := h.hto (a := x) (b := y) hx hy
      rw [this]
      show nI (if (x = a ∧ y = b) ∨ (x = b ∧ y = a) then v else A.to x y) = _
      rw [if_neg (by omega)]
theorem c_setTouch {t A μ} (h : CR t A μ) (w : WF A) {a b v : Nat} (ha : a < A.n) (hb : b < A.n) (hab : a ≠ b) : Land_setTouch t (nI a) (nI b) (nI v) μ = some (si (si μ (t + 3) (a * 6 + b) (nI v)) (t + 3) (b * 6 + a) (nI v)) := by
  have hn := w.n6
  unfold Land_setTouch
  rw [c_areTwo h w, inR_n (by omega), inR_n (by omega), decide_eq_true ha, decide_eq_true hb, decide_eq_true (show nI a ≠ nI b from by rw [ne_eq, nI_eq (by omega) (by omega)]; exact hab)]
  simp only [Option.bind_some, Option.bind_none, if_true, if_false, ite_true, ite_false, Bool.false_eq_true, Bool.true_eq_false, Bool.not_true, Bool.not_false, decide_true, decide_false, decide_eq_true_eq, Sum.elim_inl, Sum.elim_inr, ne_eq, not_true, not_false_iff, reduceIte, reduceCtorEq, Bool.cond_true, Bool.cond_false, Bool.and_self, li_6, pk_mul, nI_add, stA_n (show a * 6 + b < 36 by omega) (show 36 ≤ 5000 by omega), stA_n (show b * 6 + a < 36 by omega) (show 36 ≤ 5000 by omega)]
/-- the first of the least -/
def am (ok : Nat → Bool) (v : Nat → Nat) : Nat → Option Nat
  | 0 => none
  | k + 1 => if (ok k && (am ok v k).elim true (fun j => decide (v k < v j))) = true then some k else am ok v k
theorem am_none {ok : Nat → Bool} {v : Nat → Nat} : ∀ {N : Nat}, am ok v N = none → ∀ i, i < N → ok i = false
  | 0, _, i, hi => absurd hi (Nat.not_lt_zero _)
  | N + 1, h, i, hi => by
    unfold am at h
    split at h
    · cases h
    · rename_i q
      by_cases e : i = N
      · subst e
        rw [h] at q
        revert q
        cases ok i <;> simp
      · exact am_none h i (by omega)
theorem am_some {ok : Nat → Bool} {v : Nat → Nat} : ∀ {N j : Nat}, am ok v N = some j → j < N ∧ ok j = true ∧ (∀ i, i < N → ok i = true → v j ≤ v i) ∧ (∀ i, i < j → ok i = true → v j < v i)
  | 0, j, h => by cases h
  | N + 1, j, h => by
    unfold am at h
    split at h
    · rename_i q
      cases h
      rw [Bool.and_eq_true] at q
      refine ⟨by omega, q.1, fun i hi hk => ?_, fun i hi hk => ?_⟩
      · by_cases e : i = N
        · rw [e]; exact Nat.le_refl _
        · rcases hm : am ok v N with _ | m
          · rw [am_none hm i (by omega)] at hk; cases hk
          · obtain ⟨m1, m2, m3, m4⟩ := am_some hm
            have := m3 i (by omega) hk
            rw [hm] at q
            have q2 : v N < v m := of_decide_eq_true q.2
            omega
      · rcases hm : am ok v N with _ | m
        · rw [am_none hm i (by omega)] at hk; cases hk
        · obtain ⟨m1, m2, m3, m4⟩ := am_some hm
          have := m3 i (by omega) hk
          rw [hm] at q
          have q2 : v N < v m := of_decide_eq_true q.2
          omega
    · rename_i q
      obtain ⟨m1, m2, m3, m4⟩ := am_some h
      refine ⟨by omega, m2, fun i hi hk => ?_, m4⟩
      by_cases e : i = N
      · subst e
        rw [h, hk] at q
        have : ¬ v i < v j := by simpa using q
        omega
      · exact m3 i (by omega) hk
theorem am_uniq {ok : Nat → Bool} {v : Nat → Nat} {N j : Nat} (h1 : j < N) (h2 : ok j = true) (h3 : ∀ i, i < N → ok i = true → v j ≤ v i) (h4 : ∀ i, i < j → ok i = true → v j < v i) : am ok v N = some j := by
  rcases hm : am ok v N with _ | m
  · rw [am_none hm j h1] at h2; cases h2
  · obtain ⟨m1, m2, m3, m4⟩ := am_some hm
    have a1 := h3 m m1 m2
    have a2 := m3 j h1 h2
    rcases Nat.lt_trichotomy j m with e | e | e
    · have := m4 j e h2; omega
    · rw [e]
    · have := h4 m e m2; omega
def fOk (A : LV) (a b s : Nat) : Bool := lw (A.stt a b 1) (msk s A.ow)
def fOw (A : LV) (s : Nat) : Bool := al (fun f => !(s.testBit f) || decide (A.ow f ≠ 0)) A.n
def sFlood (A : LV) (x y : Int32) : Int32 := if (inR x A.n && inR y A.n && decide (x ≠ y)) = true then (am (fOk A x.toNatClampNeg y.toNatClampNeg) (wto A A.ow) (2 ^ A.n)).elim 0 (fun j => nI j) else -1
theorem wto_le {A : LV} (w : WF A) (s : Nat) : wto A A.ow s ≤ 600 := by
  have hn := w.n6
  unfold wto
  have := sm_le (f := fun f => if s.testBit f = true then A.wt (A.ow f) f else 0) (c := 99) (n := A.n) (fun k hk => by
    show (if s.testBit k = true then A.wt (A.ow k) k else 0) ≤ 99
    split
    · exact wt_le w (w.owl hk) hk
    · omega)
  have h2 : A.n * 99 ≤ 6 * 99 := Nat.mul_le_mul_right _ hn
  omega
theorem N_flood_v {A : LV} {μ : MI} (h : CR 1 A μ) (w : WF A) (x y : Int32) : ∃ m, N_flood x y μ = some (sFlood A x y, m) ∧ ag pC μ m := by
  have hn := w.n6
  unfold N_flood sFlood
  rw [c_areTwo h w]
  by_cases g : (inR x A.n && inR y A.n && decide (x ≠ y)) = true
  · rw [if_pos g, g]
    have g1 : inR x A.n = true := by revert g; cases inR x A.n <;> simp
    have g2 : inR y A.n = true := by revert g; rw [g1]; cases inR y A.n <;> simp
    have g3 : x ≠ y := by revert g; rw [g1, g2]; simp
    obtain ⟨a, ha, rfl⟩ := inR_t g1
    obtain ⟨b, hb, rfl⟩ := inR_t g2
    have hab : a ≠ b := fun e => g3 (by rw [e])
    rw [nI_clamp (show a < 2 ^ 31 by omega), nI_clamp (show b < 2 ^ 31 by omega)]
    obtain ⟨m0, c1, c2, c3⟩ := c_copyFrom (t := 8) (o := 1) h w (by omega)
    have g0 : ag pC μ m0 := ag_mo c3 (fun a j q => Or.inl q)
    have st := c_setTouch (v := 1) c2 w ha hb hab
    have r5 := c2.stt (v := 1) (show a < 6 by omega) (show b < 6 by omega)
    have w5 := w.stt (h := 1) ha hb hab (by omega)
    have g5 : ag pC μ (si (si m0 (8 + 3) (a * 6 + b) (nI 1)) (8 + 3) (b * 6 + a) (nI 1)) := ag_st (ag_st g0 (Or.inl (by omega))) (Or.inl (by omega))
    generalize si (si m0 (8 + 3) (a * 6 + b) (nI 1)) (8 + 3) (b * 6 + a) (nI 1) = m at st r5 g5
    have t6 := two_le hn
    have nr : m.1 8 0 = nI A.n := r5.hn
    simp only [Option.bind_some, c1, li_1, st, if_true]
    have key : lp (N_flood_s1 m) FUEL (0, 2147483647, 0) = some (nI ((am (fOk A a b) (wto A A.ow) (2 ^ A.n)).elim 0 id), (am (fOk A a b) (wto A A.ow) (2 ^ A.n)).elim 2147483647 (fun j => nI (wto A A.ow j))) := by
      refine lp_seq (fun k => (nI ((am (fOk A a b) (wto A A.ow) k).elim 0 id), (am (fOk A a b) (wto A A.ow) k).elim 2147483647 (fun j => nI (wto A A.ow j)), nI k)) (2 ^ A.n) (by omega) (fun k hk => ?_) ?_
      · have wv := c_worthToOwners r5 w5 (B := k) (by omega)
        have ev : wto (A.stt a b 1) (A.stt a b 1).ow k = wto A A.ow k := rfl
        rw [ev] at wv
        obtain ⟨r, f1, f2⟩ := c_lawfulB r5 w5 (B := k) (by omega)
        have ef : lw (A.stt a b 1) (msk k (A.stt a b 1).ow) = fOk A a b k := rfl
        rw [ef] at f2
        have v1 := wto_le w k
        have lt : (nI (wto A A.ow k) < (am (fOk A a b) (wto A A.ow) k).elim 2147483647 (fun j => nI (wto A A.ow j))) = ((am (fOk A a b) (wto A A.ow) k).elim true (fun j => decide (wto A A.ow k < wto A A.ow j)) = true) := by
          rcases am (fOk A a b) (wto A A.ow) k with _ | j
          · show (nI (wto A A.ow k) < 2147483647) = _
            rw [show (2147483647 : Int32) = nI 2147483647 from rfl, nI_ltI (by omega) (by omega)]
            simp; omega
          · have v2 := wto_le w j
            show (nI (wto A A.ow k) < nI (wto A A.ow j)) = (decide (wto A A.ow k < wto A A.ow j) = true)
            rw [nI_ltI (by omega) (by omega), decide_eq_true_eq]
        simp only [N_flood_s1, nr, li_1, sh1 (show A.n < 29 by omega), if_pos (nI_lt hk (show 2 ^ A.n < 2 ^ 31 by omega)), wv, Option.bind_some, f1, f2, lt, nI_add, am]
        by_cases z1 : (am (fOk A a b) (wto A A.ow) k).elim true (fun j => decide (wto A A.ow k < wto A A.ow j)) = true
        · rw [if_pos z1, z1]
          cases fOk A a b k
          · simp
          · simp
        · rw [if_neg z1]
          have z2 : (am (fOk A a b) (wto A A.ow) k).elim true (fun j => decide (wto A A.ow k < wto A A.ow j)) = false := by simpa using z1
          rw [z2]
          simp
      · simp only [N_flood_s1, nr, li_1, sh1 (show A.n < 29 by omega), if_neg (nI_nlt (Nat.le_refl (2 ^ A.n)) (show 2 ^ A.n < 2 ^ 31 by omega))]
    rw [key]
    refine ⟨m, ?_, g5⟩
    rcases am (fOk A a b) (wto A A.ow) (2 ^ A.n) with _ | j <;> rfl
  · rw [if_neg g]
    have : (inR x A.n && inR y A.n && decide (x ≠ y)) = false := by simpa using g
    rw [this]
    exact ⟨μ, rfl, ag_rf _ _⟩
