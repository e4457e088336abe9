/-! ===== numbers as rows of digits; fewest ===== -/
/-- the digit of the place g in a number of f digits, the first the highest -/
def pfx (P f B g : Nat) : Nat := B / P ^ (f - 1 - g) % P
theorem pfx_lt {P f B g : Nat} (h : 0 < P) : pfx P f B g < P := Nat.mod_lt _ h
theorem pfx_up {P f B p g : Nat} (hp : p < P) (hg : g < f) : pfx P (f + 1) (B * P + p) g = pfx P f B g := by
  unfold pfx
  have e : f + 1 - 1 - g = 1 + (f - 1 - g) := by omega
  rw [e, Nat.pow_add, Nat.pow_one, ← Nat.div_div_eq_div_mul]
  have h2 : (B * P + p) / P = B := by
    rw [Nat.mul_comm, Nat.mul_add_div (by omega), Nat.div_eq_of_lt hp, Nat.add_zero]
  rw [h2]
theorem pfx_last {P f B p : Nat} (hp : p < P) : pfx P (f + 1) (B * P + p) f = p := by
  unfold pfx
  rw [show f + 1 - 1 - f = 0 by omega, Nat.pow_zero, Nat.div_one, Nat.mul_comm, Nat.mul_add_mod, Nat.mod_eq_of_lt hp]
theorem pfx_rng {P f r B m g : Nat} (h1 : B * P ^ r ≤ m) (h2 : m < (B + 1) * P ^ r) (hg : g < f) : pfx P (f + r) m g = pfx P f B g := by
  have hP : 0 < P ^ r := by
    rcases Nat.eq_zero_or_pos (P ^ r) with z | z
    · rw [z] at h1 h2; omega
    · exact z
  have e : m / P ^ r = B := Nat.div_eq_of_lt_le h1 h2
  unfold pfx
  have e2 : f + r - 1 - g = r + (f - 1 - g) := by omega
  rw [e2, Nat.pow_add, ← Nat.div_div_eq_div_mul, e]
/-- digits into a number -/
def enc (P : Nat) (d : Nat → Nat) : Nat → Nat
  | 0 => 0
  | k + 1 => enc P d k * P + d k
theorem enc_lt {P : Nat} {d : Nat → Nat} : ∀ {n : Nat}, (∀ g, g < n → d g < P) → enc P d n < P ^ n
  | 0, _ => Nat.one_pos
  | n + 1, h => by
    have ih := enc_lt (n := n) (fun g hg => h g (by omega))
    have hd := h n (by omega)
    show enc P d n * P + d n < P ^ (n + 1)
    rw [Nat.pow_succ]
    have h3 : (enc P d n + 1) * P ≤ P ^ n * P := Nat.mul_le_mul_right P ih
    rw [Nat.add_mul, Nat.one_mul] at h3
    omega
theorem enc_pfx {P : Nat} {d : Nat → Nat} : ∀ {n : Nat}, (∀ g, g < n → d g < P) → ∀ g, g < n → pfx P n (enc P d n) g = d g
  | 0, _, g, hg => absurd hg (Nat.not_lt_zero _)
  | n + 1, h, g, hg => by
    show pfx P (n + 1) (enc P d n * P + d n) g = d g
    by_cases e : g = n
    · subst e; exact pfx_last (h g (by omega))
    · rw [pfx_up (h n (by omega)) (by omega)]
      exact enc_pfx (fun g hg => h g (by omega)) g (by omega)
theorem enc_of {P : Nat} (hP : 0 < P) : ∀ {n m : Nat}, m < P ^ n → enc P (pfx P n m) n = m
  | 0, m, h => by
    rw [Nat.pow_zero] at h
    show 0 = m
    omega
  | n + 1, m, h => by
    have h2 : m / P < P ^ n := by
      rw [Nat.div_lt_iff_lt_mul hP, ← Nat.pow_succ]; exact h
    have ih := enc_of hP h2
    have hm : m / P * P + m % P = m := by rw [Nat.mul_comm]; exact Nat.div_add_mod m P
    have hl : m % P < P := Nat.mod_lt _ hP
    have e1 : ∀ g, g < n → pfx P (n + 1) m g = pfx P n (m / P) g := fun g hg => by
      rw [← pfx_up (B := m / P) (p := m % P) hl hg, hm]
    have e2 : pfx P (n + 1) m n = m % P := by
      have := pfx_last (f := n) (B := m / P) hl
      rw [hm] at this; exact this
    have e3 : ∀ k, k ≤ n → enc P (pfx P (n + 1) m) k = enc P (pfx P n (m / P)) k := by
      intro k
      induction k with
      | zero => intro _; rfl
      | succ k ih2 =>
        intro hk
        show enc P (pfx P (n + 1) m) k * P + pfx P (n + 1) m k = enc P (pfx P n (m / P)) k * P + pfx P n (m / P) k
        rw [ih2 (by omega), e1 k (by omega)]
    show enc P (pfx P (n + 1) m) n * P + pfx P (n + 1) m n = m
    rw [e3 n (Nat.le_refl _), ih, e2, hm]
/-- the reference's digits -/
def DG (A : LV) (d : Nat → Nat) (μ : MI) : Prop := ∀ g, g < A.n → μ.1 76 g = nI (d g)
theorem iI_ge0 {z : Int} (h1 : -2147483648 ≤ z) (h2 : z < 2147483648) : ((0 : Int32) ≤ iI z) = (0 ≤ z) := by
  rw [Int32.le_iff_toInt_le, iI_toInt h1 h2]; rfl
theorem m_spread {A : LV} {μ : MI} (h : MR A μ) (w : WF A) {P m : Nat} (hP : 0 < P) (hP2 : P < 2 ^ 20) (hm : m < 2 ^ 31) : ∃ μ', M_spread (nI m) (nI P) μ = some μ' ∧ DG A (pfx P A.n m) μ' ∧ ag (fun a _ => a = 76) μ μ' := by
  have hn := w.n6
  unfold M_spread
  rw [h.hn]
  have e1 : ∀ k : Nat, k ≤ A.n → (nI A.n - 1 : Int32) = iI ((A.n : Int) - 1) := fun k _ => by
    rw [← iI_nat, show (1 : Int32) = iI 1 from rfl, iI_sub]
  rw [e1 0 (by omega)]
  simp only [Option.bind_some]
  have lt : ∀ k, m / P ^ k < 2 ^ 31 := fun k => Nat.lt_of_le_of_lt (Nat.div_le_self _ _) hm
  obtain ⟨o, q1, q2, q3⟩ := lp_inv (step := M_spread_s1 (nI P)) (s := (nI m, iI ((A.n : Int) - 1), μ)) (fun k t => t.1 = nI (m / P ^ k) ∧ t.2.1 = iI ((A.n : Int) - 1 - k) ∧ ag (fun a _ => a = 76) μ t.2.2 ∧ ∀ g, A.n - k ≤ g → g < A.n → t.2.2.1 76 g = nI (pfx P A.n m g)) (fun o => DG A (pfx P A.n m) o.2 ∧ ag (fun a _ => a = 76) μ o.2) A.n (by omega) ⟨by rw [Nat.pow_zero, Nat.div_one], by rw [show (A.n : Int) - 1 - ((0 : Nat) : Int) = (A.n : Int) - 1 by omega], ag_rf _ _, fun g h1 h2 => by omega⟩ (by
      rintro k ⟨rs, i, n⟩ hk ⟨t1, t2, t3, t4⟩
      simp only at t1 t2 t3 t4; subst t2; subst t1
      refine Or.inl ?_
      have ei : iI ((A.n : Int) - 1 - k) = nI (A.n - 1 - k) := by
        rw [← iI_nat]; congr 1; omega
      have l1 := lt k
      have rv : rmO (nI (m / P ^ k)) (nI P) = some (nI (m / P ^ k % P)) := by
        unfold rmO
        rw [if_neg (by rw [li_0, nI_eq (by omega) (by omega)]; omega), rm_n l1 hP (by omega)]
      have dvv : dv (nI (m / P ^ k)) (nI P) = some (nI (m / P ^ k / P)) := by
        unfold dv
        rw [if_neg (by rw [li_0, nI_eq (by omega) (by omega)]; omega), pk_div l1 hP (by omega)]
      have nx : iI ((A.n : Int) - 1 - k) + -1 = iI ((A.n : Int) - 1 - ((k + 1 : Nat) : Int)) := by
        rw [show (-1 : Int32) = iI (-1) from rfl, iI_add]; congr 1; omega
      refine ⟨(nI (m / P ^ (k + 1)), iI ((A.n : Int) - 1 - ((k + 1 : Nat) : Int)), si n 76 (A.n - 1 - k) (nI (m / P ^ k % P))), ?_, rfl, rfl, ag_st t3 rfl, fun g h1 h2 => ?_⟩
      · unfold M_spread_s1
        simp only []
        rw [if_pos (show (0 : Int32) ≤ iI ((A.n : Int) - 1 - k) from by rw [iI_ge0 (by omega) (by omega)]; omega), rv, nx]
        simp only [Option.bind_some]
        rw [ei, stA_n (by omega) (by omega), dvv]
        simp only [Option.bind_some]
        rw [Nat.div_div_eq_div_mul, ← Nat.pow_succ]
      · rw [si_at]
        by_cases e : g = A.n - 1 - k
        · rw [if_pos e, e]
          unfold pfx
          rw [show A.n - 1 - (A.n - 1 - k) = k by omega]
        · rw [if_neg e]; exact t4 g (by omega) h2) (by
      rintro ⟨rs, i, n⟩ ⟨t1, t2, t3, t4⟩
      simp only at t1 t2 t3 t4; subst t2; subst t1
      refine ⟨(nI (m / P ^ A.n), n), ?_, fun g hg => t4 g (by omega) hg, t3⟩
      unfold M_spread_s1
      simp only []
      rw [if_neg (show ¬ (0 : Int32) ≤ iI ((A.n : Int) - 1 - A.n) from by rw [iI_ge0 (by omega) (by omega)]; omega)])
  rw [q1]
  exact ⟨o.2, rfl, q2, q3⟩
theorem m_power {P : Nat} (n : Nat) (hn : n ≤ 6) : M_power (nI P) (nI n) = some (nI (P ^ n)) := by
  unfold M_power
  have key : lp (M_power_s1 (nI n) (nI P)) FUEL (1, 0) = some (nI (P ^ n)) := by
    refine lp_seq (fun k => (nI (P ^ k), nI k)) n (by omega) (fun k hk => ?_) ?_
    · simp only [M_power_s1, if_pos (nI_lt hk (show n < 2 ^ 31 by omega)), pk_mul, Option.bind_some, li_1, nI_add, Nat.pow_succ]
    · simp only [M_power_s1, if_neg (nI_nlt (Nat.le_refl n) (show n < 2 ^ 31 by omega))]
  rw [key]; rfl
/-- a numbering that parts all that bar -/
def vF (A : LV) (d : Nat → Nat) : Bool := al (fun a => al (fun b => decide (d a ≠ d b) || !(A.br a b)) a) A.n
theorem vF_iff {A : LV} {d : Nat → Nat} : vF A d = true ↔ ∀ a b, a < A.n → b < a → A.br a b = true → d a ≠ d b := by
  unfold vF
  rw [al_iff]
  constructor
  · intro h a b ha hb hr
    have := al_iff.mp (h a ha) b hb
    rw [hr] at this
    simpa using this
  · intro h a ha
    rw [al_iff]
    intro b hb
    cases hr : A.br a b
    · simp
    · simp [h a b ha hb hr]
theorem m_isColouring {A : LV} {μ : MI} {d : Nat → Nat} (h : MR A μ) (w : WF A) (hd : DG A d μ) (hl : ∀ g, g < A.n → d g < 2 ^ 31) : M_isColouring μ = some (vF A d) := by
  have hn := w.n6
  unfold M_isColouring vF
  have inner : ∀ a c, a < A.n → lp (M_isColouring_s2 (nI a) μ) FUEL (c, 0) = some (c && al (fun b => decide (d a ≠ d b) || !(A.br a b)) a) := by
    intro a c ha
    have q : lp (M_isColouring_s2 (nI a) μ) FUEL (c && al (fun b => decide (d a ≠ d b) || !(A.br a b)) 0, nI 0) = some (c && al (fun b => decide (d a ≠ d b) || !(A.br a b)) a) := by
      refine lp_seq (fun k => (c && al (fun b => decide (d a ≠ d b) || !(A.br a b)) k, nI k)) a (by omega) (fun i hi => ?_) ?_
      · have l1 := hl a ha
        have l2 := hl i (by omega)
        have ne : (nI (d a) ≠ nI (d i)) ↔ d a ≠ d i := by rw [ne_eq, nI_eq l1 l2]
        simp only [M_isColouring_s2, if_pos (nI_lt hi (show a < 2 ^ 31 by omega)), ldA_n (show a < 6 by omega) (show 6 ≤ 5000 by omega), ldA_n (show i < 6 by omega) (show 6 ≤ 5000 by omega), hd a ha, hd i (show i < A.n by omega), m_bars h w ha (show i < A.n by omega), Option.bind_some, li_1, nI_add, al, ne]
        by_cases g : d a = d i
        · cases c <;> cases al (fun b => decide (d a ≠ d b) || !(A.br a b)) i <;> cases A.br a i <;> simp [g]
        · cases c <;> cases al (fun b => decide (d a ≠ d b) || !(A.br a b)) i <;> simp [g]
      · simp only [M_isColouring_s2, if_neg (nI_nlt (Nat.le_refl a) (show a < 2 ^ 31 by omega))]
    rw [show (c && al (fun b => decide (d a ≠ d b) || !(A.br a b)) 0) = c from by simp [al]] at q
    exact q
  have outer : lp (M_isColouring_s1 μ) FUEL (true, 0) = some (al (fun a => al (fun b => decide (d a ≠ d b) || !(A.br a b)) a) A.n) := by
    refine lp_seq (fun k => (al (fun a => al (fun b => decide (d a ≠ d b) || !(A.br a b)) a) k, nI k)) A.n (by omega) (fun i hi => ?_) ?_
    · simp only [M_isColouring_s1, h.hn, if_pos (nI_lt hi (show A.n < 2 ^ 31 by omega)), inner i _ hi, Option.bind_some, li_1, nI_add, al]
    · simp only [M_isColouring_s1, h.hn, if_neg (nI_nlt (Nat.le_refl A.n) (show A.n < 2 ^ 31 by omega))]
  rw [outer]; rfl
