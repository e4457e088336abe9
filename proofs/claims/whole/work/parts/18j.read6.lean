/-! ===== land: statements one by one ===== -/
theorem m_letter {v : Int32} {n : Nat} (h : Rel v n) : ((if v ≠ 102 then (if v ≠ 104 then (if v ≠ 99 then (if v ≠ 112 then (if v ≠ 119 then (if v ≠ 111 then (some (decide (v ≠ 120))) else (some false)) else (some false)) else (some false)) else (some false)) else (some false)) else (some false)) : Option Bool) = some (!isL n) := by
  have e : ∀ c, 0 < c → c < 128 → (v ≠ nI c) = (n ≠ c) := fun c h0 hc => by rw [ne_eq, rel_eq h h0 hc]
  by_cases z1 : n = 102
  · rw [if_neg (show ¬ v ≠ 102 from fun q => ((e 102 (by omega) (by omega)).mp q) z1), z1]; rfl
  rw [if_pos (show v ≠ 102 from (e 102 (by omega) (by omega)).mpr z1)]
  by_cases z2 : n = 104
  · rw [if_neg (show ¬ v ≠ 104 from fun q => ((e 104 (by omega) (by omega)).mp q) z2), z2]; rfl
  rw [if_pos (show v ≠ 104 from (e 104 (by omega) (by omega)).mpr z2)]
  by_cases z3 : n = 99
  · rw [if_neg (show ¬ v ≠ 99 from fun q => ((e 99 (by omega) (by omega)).mp q) z3), z3]; rfl
  rw [if_pos (show v ≠ 99 from (e 99 (by omega) (by omega)).mpr z3)]
  by_cases z4 : n = 112
  · rw [if_neg (show ¬ v ≠ 112 from fun q => ((e 112 (by omega) (by omega)).mp q) z4), z4]; rfl
  rw [if_pos (show v ≠ 112 from (e 112 (by omega) (by omega)).mpr z4)]
  by_cases z5 : n = 119
  · rw [if_neg (show ¬ v ≠ 119 from fun q => ((e 119 (by omega) (by omega)).mp q) z5), z5]; rfl
  rw [if_pos (show v ≠ 119 from (e 119 (by omega) (by omega)).mpr z5)]
  by_cases z6 : n = 111
  · rw [if_neg (show ¬ v ≠ 111 from fun q => ((e 111 (by omega) (by omega)).mp q) z6), z6]; rfl
  rw [if_pos (show v ≠ 111 from (e 111 (by omega) (by omega)).mpr z6)]
  congr 1
  by_cases z7 : n = 120
  · rw [decide_eq_false (show ¬ v ≠ 120 from fun q => ((e 120 (by omega) (by omega)).mp q) z7), z7]; rfl
  · rw [decide_eq_true (show v ≠ 120 from (e 120 (by omega) (by omega)).mpr z7)]
    unfold isL
    rw [decide_eq_false (by omega)]; rfl
theorem m_readStatement {d z i k : Nat} {b : Nat → Int32} {m : MI} (h : TR d z b m) (q : Q2 i false m) (k16 : m.1 62 16 = nI k) (hi : i < 900) (hk : k < 51) : ∃ m', M_readStatement m = some m' ∧ ag (pZ k) m m' ∧ Q2 (pst (sg z b) i).2.1 (!(pst (sg z b) i).1) m' ∧ m'.1 62 16 = nI (k + 1) ∧ ((pst (sg z b) i).1 = true → m'.1 70 k = nI i ∧ RF k (sg z b i) (pst (sg z b) i).2.2.1 (pst (sg z b) i).2.2.2.1 (pst (sg z b) i).2.2.2.2 m') := by
  obtain ⟨v, v1, v2⟩ := m_here h q.1 (show i < 1000 by omega)
  unfold M_readStatement
  rw [k16, v1, q.1]
  simp only [Option.bind_some]
  rw [stA_n hk (by omega)]
  simp only [Option.bind_some]
  rw [stA_n hk (by omega)]
  simp only [Option.bind_some]
  have i15 : (si (si m 70 k (nI i)) 71 k v).1 62 15 = bI false := by rw [si_ne (by omega), si_ne (by omega)]; exact q.2
  have i14 : (si (si m 70 k (nI i)) 71 k v).1 62 14 = nI i := by rw [si_ne (by omega), si_ne (by omega)]; exact q.1
  rw [ldZ_b i15]
  simp only [Option.bind_some, Bool.false_eq_true, if_false]
  rw [m_letter v2]
  simp only [Option.bind_some]
  have zz : ∀ (u : MI) x, stZ u 62 15 x = some (si u 62 15 (bI x)) := fun u x => rfl
  rw [zz]
  simp only [Option.bind_some]
  rw [ldZ_b (b := !isL (sg z b i)) (show (si (si (si m 70 k (nI i)) 71 k v) 62 15 (bI (!isL (sg z b i)))).1 62 15 = _ from by rw [si_at, if_pos rfl])]
  have f14 : ∀ x, (si (si (si m 70 k (nI i)) 71 k v) 62 15 x).1 62 14 = nI i := fun x => by rw [si_at, if_neg (by omega)]; exact i14
  simp only [Option.bind_some, stF, f14]
  cases hl : isL (sg z b i)
  · have ps : pst (sg z b) i = (false, i, 0, 0, 0) := by
      unfold pst
      rw [hl, if_pos rfl]
    rw [ps]
    simp only [Bool.not_false, if_true, Option.bind_some]
    rw [li_0, nI_add, Nat.add_zero]
    generalize hm : si (si (si (si m 70 k (nI i)) 71 k v) 62 15 (bI true)) 62 14 (nI i) = m1
    have g1 : ag (pZ k) m m1 := by
      rw [← hm]
      exact ag_st (ag_st (ag_st (ag_si (by unfold pZ; omega)) (by unfold pZ; omega)) (by unfold pZ; omega)) (by unfold pZ; omega)
    have b15 : m1.1 62 15 = bI true := by rw [← hm, si_at, if_neg (by omega), si_at, if_pos rfl]
    have b14 : m1.1 62 14 = nI i := by rw [← hm, si_at, if_pos rfl]
    have b16 : m1.1 62 16 = nI k := by rw [← hm, si_at, if_neg (by omega), si_at, if_neg (by omega), si_ne (by omega), si_ne (by omega)]; exact k16
    rw [ldZ_b b15]
    simp only [Option.bind_some, if_true]
    obtain ⟨m2, u1, u2, u3, u4, u5⟩ := m_take (c := 59) (β := true) k (h.fr g1) ⟨b14, b15⟩ (show i < 999 by omega) (by omega) (by omega)
    have u1' : M_take 59 m1 = some m2 := u1
    rw [u1']
    simp only [Option.bind_some]
    rw [u4, b16, li_1, nI_add]
    simp only [Bool.not_true, Bool.false_and, Bool.false_eq_true, if_false, Bool.not_false] at u3
    refine ⟨_, rfl, ag_st (ag_tr g1 u2) (by unfold pZ; omega), ⟨?_, ?_⟩, ?_, fun r => (by cases r)⟩
    · rw [si_at, if_neg (by omega)]; exact u3.1
    · rw [si_at, if_neg (by omega)]; exact u3.2
    · rw [si_at, if_pos rfl]
  · have L := isL_t hl
    have ev : v = nI (sg z b i) := v2.2.1 (by omega)
    simp only [Bool.not_true, Bool.false_eq_true, if_false, Option.bind_some]
    rw [li_1, nI_add]
    generalize hm : si (si (si (si m 70 k (nI i)) 71 k v) 62 15 (bI false)) 62 14 (nI (i + 1)) = m1
    have g1 : ag (pZ k) m m1 := by
      rw [← hm]
      exact ag_st (ag_st (ag_st (ag_si (by unfold pZ; omega)) (by unfold pZ; omega)) (by unfold pZ; omega)) (by unfold pZ; omega)
    have b15 : m1.1 62 15 = bI false := by rw [← hm, si_at, if_neg (by omega), si_at, if_pos rfl]
    have b14 : m1.1 62 14 = nI (i + 1) := by rw [← hm, si_at, if_pos rfl]
    have b16 : m1.1 62 16 = nI k := by rw [← hm, si_at, if_neg (by omega), si_at, if_neg (by omega), si_ne (by omega), si_ne (by omega)]; exact k16
    have b70 : m1.1 70 k = nI i := by rw [← hm, si_ne (by omega), si_ne (by omega), si_ne (by omega), si_at, if_pos rfl]
    have b71 : m1.1 71 k = nI (sg z b i) := by rw [← hm, si_ne (by omega), si_ne (by omega), si_at, if_pos rfl]; exact ev
    rw [ldZ_b b15]
    simp only [Option.bind_some, Bool.false_eq_true, if_false]
    have rx : RRX z b k i (nI (sg z b i)) m1 := by
      by_cases e : sg z b i = 112
      · exact m_restP (h.fr g1) ⟨b14, b15⟩ hi hk e
      · exact m_rest2 (h.fr g1) ⟨b14, b15⟩ hi hk hl e
    obtain ⟨m2, j, β, x, y, c, r1, r2, r3, r4, r5, r6, r7, r8, r9⟩ := rx
    rw [ev, r1]
    simp only [Option.bind_some]
    obtain ⟨m3, u1, u2, u3, u4, u5⟩ := m_take (c := 59) k (h.fr (ag_tr g1 r2)) r3 r9 (by omega) (by omega)
    have u1' : M_take 59 m2 = some m3 := u1
    rw [u1']
    simp only [Option.bind_some]
    rw [u4, r4, b16, nI_add]
    refine ⟨_, rfl, ag_st (ag_tr (ag_tr g1 r2) u2) (by unfold pZ; omega), ?_, by rw [si_at, if_pos rfl], fun ok => ?_⟩
    · rw [r8]
      cases β
      · simp only [Bool.not_false, Bool.true_and, Bool.false_eq_true, if_false, decide_eq_true_eq] at u3 ⊢
        exact ⟨by rw [si_at, if_neg (by omega)]; exact u3.1, by rw [si_at, if_neg (by omega)]; exact u3.2⟩
      · simp only [Bool.not_true, Bool.false_and, Bool.false_eq_true, if_false, Bool.not_false, if_true] at u3 ⊢
        exact ⟨by rw [si_at, if_neg (by omega)]; exact u3.1, by rw [si_at, if_neg (by omega)]; exact u3.2⟩
    · rw [r8] at ok ⊢
      cases β
      · obtain ⟨t1, t2, t3, t4⟩ := r7 rfl
        refine ⟨by rw [si_ne (by omega), u5 70 (by omega) (by omega), r5, b70], ?_⟩
        refine ⟨by rw [si_ne (by omega), u5 71 (by omega) (by omega), r6, b71], by rw [si_ne (by omega), u5 72 (by omega) (by omega)]; exact t1, by rw [si_ne (by omega), u5 73 (by omega) (by omega)]; exact t2, fun e => ?_, fun e => ?_⟩
        · rw [si_ne (by omega), u5 74 (by omega) (by omega)]; exact t3 e
        · rw [si_ne (by omega), u5 74 (by omega) (by omega)]; exact t4 e
      · cases ok
theorem dgt_t {s : Nat → Nat} {i : Nat} (h : dgt s i = true) : 48 ≤ s i ∧ s i ≤ 57 := by
  unfold dgt at h
  exact of_decide_eq_true h
theorem fnn_b {s : Nat → Nat} {i j a b c L : Nat} (h1 : i + 2 ≤ j) (h2 : j ≤ i + 10) (bd : BD L a b c) : (fnn_ s j a b c).2.1 ≤ i + 11 ∧ ((fnn_ s j a b c).1 = true → i + 3 ≤ (fnn_ s j a b c).2.1 ∧ BD L (fnn_ s j a b c).2.2.1 (fnn_ s j a b c).2.2.2.1 (fnn_ s j a b c).2.2.2.2) := by
  constructor
  · show (if s j = 59 then j + 1 else j) ≤ i + 11
    split <;> omega
  · intro h
    have h : decide (s j = 59) = true := h
    refine ⟨?_, bd⟩
    show i + 3 ≤ (if s j = 59 then j + 1 else j)
    rw [if_pos (of_decide_eq_true h)]; omega
theorem pst_b (s : Nat → Nat) (i : Nat) : (pst s i).2.1 ≤ i + 11 ∧ ((pst s i).1 = true → i + 3 ≤ (pst s i).2.1 ∧ BD (s i) (pst s i).2.2.1 (pst s i).2.2.2.1 (pst s i).2.2.2.2) := by
  have bad : ∀ j, j ≤ i + 11 → ((false, j, 0, 0, 0) : Bool × Nat × Nat × Nat × Nat).2.1 ≤ i + 11 ∧ (((false, j, 0, 0, 0) : Bool × Nat × Nat × Nat × Nat).1 = true → i + 3 ≤ ((false, j, 0, 0, 0) : Bool × Nat × Nat × Nat × Nat).2.1 ∧ BD (s i) ((false, j, 0, 0, 0) : Bool × Nat × Nat × Nat × Nat).2.2.1 ((false, j, 0, 0, 0) : Bool × Nat × Nat × Nat × Nat).2.2.2.1 ((false, j, 0, 0, 0) : Bool × Nat × Nat × Nat × Nat).2.2.2.2) := fun j hj => ⟨hj, fun q => by cases q⟩
  unfold pst
  by_cases hl : isL (s i) = true
  · rw [if_neg (by rw [hl]; decide)]
    have L := isL_t hl
    by_cases hd : dgt s (i + 1) = true
    · rw [if_neg (by rw [hd]; decide)]
      have d1 := dgt_t hd
      by_cases e2 : s i = 102
      · rw [if_pos e2]
        exact fnn_b (by omega) (by omega) ⟨fun _ => by omega, by omega, by omega, by omega, fun q => by omega, fun q => by omega, by omega⟩
      rw [if_neg e2]
      by_cases e12 : s i = 112
      · rw [if_pos e12]
        have nb := nl_b s 2 (s (i + 1) - 48) (i + 2) 1 (by omega)
        unfold ppe
        generalize (nl s 2 (s (i + 1) - 48) (i + 2)).2 = j at nb ⊢
        generalize (nl s 2 (s (i + 1) - 48) (i + 2)).1 = p at nb ⊢
        by_cases y : s j = 107
        · rw [if_pos y]
          by_cases x : dgt s (j + 1) = true
          · rw [if_pos x]
            have d2 := dgt_t x
            exact fnn_b (by omega) (by omega) ⟨fun q => absurd e12 q, by omega, by omega, by omega, fun q => by omega, fun q => by omega, by omega⟩
          · rw [if_neg x]; exact bad _ (by omega)
        · rw [if_neg y]
          exact fnn_b (by omega) (by omega) ⟨fun q => absurd e12 q, by omega, by omega, by omega, fun q => by omega, fun q => by omega, by omega⟩
      rw [if_neg e12]
      unfold ptw
      by_cases x : dgt s (i + 2) = true
      · rw [if_neg (by rw [x]; decide)]
        have d2 := dgt_t x
        by_cases e4 : s i = 104
        · rw [if_pos e4]
          by_cases y : s (i + 3) = 108
          · rw [if_pos y]
            exact fnn_b (by omega) (by omega) ⟨fun _ => by omega, by omega, by omega, by omega, fun q => by omega, fun q => by omega, by omega⟩
          · rw [if_neg y]
            exact fnn_b (by omega) (by omega) ⟨fun _ => by omega, by omega, by omega, by omega, fun q => by omega, fun q => by omega, by omega⟩
        rw [if_neg e4]
        by_cases e9 : s i = 119
        · rw [if_pos e9]
          by_cases y : s (i + 3) = 32
          · rw [if_pos y]
            by_cases r : dgt s (i + 4) = true
            · rw [if_pos r]
              have d4 := dgt_t r
              have nb := nl_b s 1 (s (i + 4) - 48) (i + 5) 1 (by omega)
              exact fnn_b (by omega) (by omega) ⟨fun _ => by omega, by omega, by omega, by omega, fun q => by omega, fun q => by omega, by omega⟩
            · rw [if_neg r]; exact bad _ (by omega)
          · rw [if_neg y]; exact bad _ (by omega)
        · rw [if_neg e9]
          refine fnn_b (by omega) (by omega) ⟨fun _ => by omega, by omega, by omega, ?_, fun q => absurd q e4, fun q => if_pos q, by omega⟩
          split <;> omega
      · rw [if_pos (Bool.eq_false_iff.mpr x)]; exact bad _ (by omega)
    · rw [if_pos (Bool.eq_false_iff.mpr hd)]; exact bad _ (by omega)
  · rw [if_pos (Bool.eq_false_iff.mpr hl)]; exact bad _ (by omega)
def psn (s : Nat → Nat) : Nat → Nat
  | 0 => 0
  | k + 1 => (pst s (psn s k)).2.1
def sok (s : Nat → Nat) (k : Nat) : Bool := (pst s (psn s k)).1
/-- behind this one no more are read -/
def stq (s : Nat → Nat) (z k : Nat) : Bool := !(sok s k) || decide (z ≤ psn s (k + 1))
theorem stq_f {s : Nat → Nat} {z k : Nat} (h : stq s z k = false) : sok s k = true ∧ psn s (k + 1) < z := by
  unfold stq at h
  rw [Bool.or_eq_false_iff, decide_eq_false_iff_not, Bool.not_eq_false'] at h
  exact ⟨h.1, by omega⟩
theorem psn_b {s : Nat → Nat} {z : Nat} : ∀ {k : Nat}, (∀ j, j < k → stq s z j = false) → 3 * k ≤ psn s k ∧ (1 ≤ k → psn s k < z)
  | 0, _ => ⟨by omega, fun q => by omega⟩
  | k + 1, h => by
    have ih := psn_b (k := k) (fun j hj => h j (by omega))
    obtain ⟨h1, h2⟩ := stq_f (h k (by omega))
    have h3 := (pst_b s (psn s k)).2 h1
    have e : psn s (k + 1) = (pst s (psn s k)).2.1 := rfl
    exact ⟨by omega, fun _ => h2⟩
theorem rs_ex (s : Nat → Nat) {z : Nat} (hz : z ≤ 100) : ∃ K, K < 35 ∧ (∀ j, j < K → stq s z j = false) ∧ stq s z K = true := by
  rcases fnd_cases (stq s z) 35 with ⟨K, h1, h2, h3, _⟩ | ⟨hall, _⟩
  · exact ⟨K, h1, h3, h2⟩
  · have := psn_b (s := s) (z := z) (k := 35) hall
    omega
