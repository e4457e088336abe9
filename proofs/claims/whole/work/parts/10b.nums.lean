/-! ===== the pure side: numbers, loops, sets ===== -/
theorem li_0 : (0 : Int32) = nI 0 := by decide
theorem li_1 : (1 : Int32) = nI 1 := by decide
theorem li_2 : (2 : Int32) = nI 2 := by decide
theorem li_3 : (3 : Int32) = nI 3 := by decide
theorem li_4 : (4 : Int32) = nI 4 := by decide
theorem li_5 : (5 : Int32) = nI 5 := by decide
theorem li_6 : (6 : Int32) = nI 6 := by decide
theorem li_7 : (7 : Int32) = nI 7 := by decide
theorem li_8 : (8 : Int32) = nI 8 := by decide
theorem li_9 : (9 : Int32) = nI 9 := by decide
theorem li_10 : (10 : Int32) = nI 10 := by decide
theorem li_13 : (13 : Int32) = nI 13 := by decide
theorem li_18 : (18 : Int32) = nI 18 := by decide
theorem li_32 : (32 : Int32) = nI 32 := by decide
theorem li_36 : (36 : Int32) = nI 36 := by decide
theorem li_48 : (48 : Int32) = nI 48 := by decide
theorem li_57 : (57 : Int32) = nI 57 := by decide
theorem li_59 : (59 : Int32) = nI 59 := by decide
theorem li_99 : (99 : Int32) = nI 99 := by decide
theorem li_100 : (100 : Int32) = nI 100 := by decide
theorem li_102 : (102 : Int32) = nI 102 := by decide
theorem li_104 : (104 : Int32) = nI 104 := by decide
theorem li_107 : (107 : Int32) = nI 107 := by decide
theorem li_108 : (108 : Int32) = nI 108 := by decide
theorem li_111 : (111 : Int32) = nI 111 := by decide
theorem li_112 : (112 : Int32) = nI 112 := by decide
theorem li_119 : (119 : Int32) = nI 119 := by decide
theorem li_120 : (120 : Int32) = nI 120 := by decide
theorem li_128 : (128 : Int32) = nI 128 := by decide
theorem li_255 : (255 : Int32) = nI 255 := by decide
theorem li_729 : (729 : Int32) = nI 729 := by decide
theorem li_800 : (800 : Int32) = nI 800 := by decide
theorem li_999 : (999 : Int32) = nI 999 := by decide
theorem li_1458 : (1458 : Int32) = nI 1458 := by decide
theorem li_4096 : (4096 : Int32) = nI 4096 := by decide
theorem q_sl : ∀ n, n < 32 → ((nI n &&& 31).toBitVec.smod 32).toNat = n := by decide +kernel
theorem fa_and (a b : Nat) : nI a &&& nI b = nI (a &&& b) := by
  apply Int32.toBitVec_inj.1
  show BitVec.ofNat 32 a &&& BitVec.ofNat 32 b = BitVec.ofNat 32 (a &&& b)
  apply BitVec.eq_of_getLsbD_eq
  intro i hi
  simp [hi]
theorem fa_or (a b : Nat) : nI a ||| nI b = nI (a ||| b) := by
  apply Int32.toBitVec_inj.1
  show BitVec.ofNat 32 a ||| BitVec.ofNat 32 b = BitVec.ofNat 32 (a ||| b)
  apply BitVec.eq_of_getLsbD_eq
  intro i hi
  simp [hi]
theorem shl_v {a f : Nat} (ha : a < 4) (hf : f < 29) : nI a <<< (nI f &&& 31) = nI (a * 2 ^ f) := by
  refine pk_shlN _ f (q_sl f (by omega)) ?_
  have h1 : 2 ^ f < 2 ^ 29 := Nat.pow_lt_pow_right (by decide) hf
  have h2 : a * 2 ^ f ≤ 4 * 2 ^ f := Nat.mul_le_mul_right _ (by omega)
  omega
theorem shr_v {B f : Nat} (hB : B < 2 ^ 31) (hf : f < 31) : nI B >>> (nI f &&& 31) = nI (B / 2 ^ f) := pk_shrN hB _ f (q_sl f (by omega))
theorem and1_v (x : Nat) : nI x &&& nI 1 = nI (x % 2) := by
  rw [fa_and, show (1 : Nat) = 2 ^ 1 - 1 from rfl, Nat.and_two_pow_sub_one_eq_mod]
theorem nI_tb1 (B f : Nat) : (nI (B / 2 ^ f % 2) = nI 1) = (B.testBit f = true) := by
  rw [nI_eq (by omega) (by omega), Nat.testBit_eq_decide_div_mod_eq, decide_eq_true_eq]
theorem nI_tb0 (B f : Nat) : (nI (B / 2 ^ f % 2) = nI 0) = (B.testBit f = false) := by
  rw [nI_eq (by omega) (by omega), Nat.testBit_eq_decide_div_mod_eq, decide_eq_false_iff_not]
  apply propext; omega
theorem tbv {B f : Nat} (hB : B < 2 ^ 31) (hf : f < 31) : (((nI B >>> (nI f &&& 31)) &&& nI 1) = nI 1) = (B.testBit f = true) := by
  rw [shr_v hB hf, and1_v, nI_tb1]
theorem tbv0 {B f : Nat} (hB : B < 2 ^ 31) (hf : f < 31) : (((nI B >>> (nI f &&& 31)) &&& nI 1) = nI 0) = (B.testBit f = false) := by
  rw [shr_v hB hf, and1_v, nI_tb0]
theorem sh1 {f : Nat} (hf : f < 29) : nI 1 <<< (nI f &&& 31) = nI (2 ^ f) := by
  rw [shl_v (by omega) hf, Nat.one_mul]
theorem neg_lt0 {k : Nat} (h0 : 0 < k) (hk : k < 2 ^ 31) : (-nI k < nI 0) = True := by
  refine eq_true ?_
  rw [Int32.lt_iff_toInt_lt, sb_negT hk, nI_toInt (by omega)]
  omega
theorem neg_ne0 {k : Nat} (h0 : 0 < k) (hk : k < 2 ^ 31) : (-nI k = nI 0) = False := by
  refine eq_false ?_
  rw [← Int32.toInt_inj, sb_negT hk, nI_toInt (by omega)]
  omega
theorem neg_ne {k j : Nat} (h0 : 0 < k) (hk : k < 2 ^ 31) (hj : j < 2 ^ 31) : (-nI k = nI j) = False := by
  refine eq_false ?_
  rw [← Int32.toInt_inj, sb_negT hk, nI_toInt (by omega)]
  omega
theorem ne_neg {k j : Nat} (h0 : 0 < k) (hk : k < 2 ^ 31) (hj : j < 2 ^ 31) : (nI j = -nI k) = False := by
  refine eq_false ?_
  rw [← Int32.toInt_inj, sb_negT hk, nI_toInt (by omega)]
  omega
theorem neg_eq {k j : Nat} (hk : k < 2 ^ 31) (hj : j < 2 ^ 31) : (-nI k = -nI j) = (k = j) := by
  apply propext
  rw [← Int32.toInt_inj, sb_negT hk, sb_negT hj]
  omega
/-- a place within a range -/
def inR (x : Int32) (n : Nat) : Bool := decide (0 ≤ x.toInt ∧ x.toInt < (n : Int))
theorem inR_n {f n : Nat} (hf : f < 2 ^ 31) : inR (nI f) n = decide (f < n) := by
  unfold inR
  rw [nI_toInt hf]
  apply decide_eq_decide.mpr
  omega
theorem inR_t {x : Int32} {n : Nat} (h : inR x n = true) (hn : n < 2 ^ 31 := by omega) : ∃ f, f < n ∧ x = nI f := by
  have h := of_decide_eq_true h
  obtain ⟨j, hj, rfl⟩ := nI_of (x := x) (by rw [Int32.lt_iff_toInt_lt]; show ¬ x.toInt < 0; omega)
  rw [nI_toInt hj] at h
  exact ⟨j, by omega, rfl⟩
theorem rng_c {x : Int32} {c : Nat} (hc : c < 2 ^ 30) : (if x < nI 0 then some true else some (decide (nI c < x))) = some (!inR x (c + 1)) := by
  unfold inR
  have e1 : (x < nI 0) = (x.toInt < 0) := by rw [Int32.lt_iff_toInt_lt, nI_toInt (by omega)]; rfl
  have e2 : (nI c < x) = ((c : Int) < x.toInt) := by rw [Int32.lt_iff_toInt_lt, nI_toInt (by omega)]
  simp only [e1, e2]
  by_cases h1 : x.toInt < 0
  · simp only [if_pos h1]; congr 1; simp; omega
  · simp only [if_neg h1]; congr 1; simp only [← decide_not]; apply decide_eq_decide.mpr; omega
theorem M_in_c {x : Int32} {c : Nat} (k : Int64) (hk : k.toInt = (c : Int)) : M_in x.toInt64 0 k = some (inR x (c + 1)) := by
  unfold M_in inR
  have e1 : ((0 : Int64) ≤ x.toInt64) = (0 ≤ x.toInt) := by rw [Int64.le_iff_toInt_le, Int32.toInt_toInt64]; rfl
  have e2 : (x.toInt64 ≤ k) = (x.toInt ≤ (c : Int)) := by rw [Int64.le_iff_toInt_le, Int32.toInt_toInt64, hk]
  simp only [e1, e2]
  by_cases h1 : 0 ≤ x.toInt
  · simp only [if_pos h1, Option.bind_some]; congr 1; apply decide_eq_decide.mpr; omega
  · simp only [if_neg h1, Option.bind_some]; congr 1; symm; apply decide_eq_false; omega
theorem M_in1 (x : Int32) : M_in x.toInt64 0 1 = some (inR x 2) := M_in_c 1 rfl
theorem M_in2 (x : Int32) : M_in x.toInt64 0 2 = some (inR x 3) := M_in_c 2 rfl
theorem M_in3 (x : Int32) : M_in x.toInt64 0 3 = some (inR x 4) := M_in_c 3 rfl
theorem M_in7 (x : Int32) : M_in x.toInt64 0 7 = some (inR x 8) := M_in_c 7 rfl
theorem M_in9 (x : Int32) : M_in x.toInt64 0 9 = some (inR x 10) := M_in_c 9 rfl
theorem M_in9999 (x : Int32) : M_in x.toInt64 0 9999 = some (inR x 10000) := M_in_c 9999 rfl
theorem M_in_n (x : Int32) {n : Nat} (hn : n < 2 ^ 30) : M_in x.toInt64 0 (nI n - 1).toInt64 = some (inR x n) := by
  have e : (nI n - 1).toInt64.toInt = (n : Int) - 1 := by
    rw [Int32.toInt_toInt64, show (1 : Int32) = nI 1 from rfl, pk_sub_toInt (by omega) (by omega)]
    rfl
  unfold M_in inR
  have e1 : ((0 : Int64) ≤ x.toInt64) = (0 ≤ x.toInt) := by rw [Int64.le_iff_toInt_le, Int32.toInt_toInt64]; rfl
  have e2 : (x.toInt64 ≤ (nI n - 1).toInt64) = (x.toInt < (n : Int)) := by rw [Int64.le_iff_toInt_le, Int32.toInt_toInt64, e]; apply propext; omega
  simp only [e1, e2]
  by_cases h1 : 0 ≤ x.toInt
  · simp only [if_pos h1, Option.bind_some]; congr 1; apply decide_eq_decide.mpr; omega
  · simp only [if_neg h1, Option.bind_some]; congr 1; symm; apply decide_eq_false; omega
/-! memory -/
theorem ldA_n {N : Nat} {μ : MI} {a i : Nat} (h : i < N) (hN : N ≤ 5000) : ldA N μ a (nI i) = some (μ.1 a i) := by
  unfold ldA
  rw [nI_clamp (by omega), if_pos ⟨nI_pos' (by omega), h⟩]
theorem ldL_n {N : Nat} {μ : MI} {a i : Nat} (h : i < N) (hN : N ≤ 5000) : ldL N μ a (nI i) = some (μ.2 a i) := by
  unfold ldL
  rw [nI_clamp (by omega), if_pos ⟨nI_pos' (by omega), h⟩]
theorem stA_n {N : Nat} {μ : MI} {a i : Nat} {x : Int32} (h : i < N) (hN : N ≤ 5000) : stA N μ a (nI i) x = some (si μ a i x) := by
  unfold stA
  rw [nI_clamp (by omega), if_pos ⟨nI_pos' (by omega), h⟩]
theorem stL_n {N : Nat} {μ : MI} {a i : Nat} {x : Int64} (h : i < N) (hN : N ≤ 5000) : stL N μ a (nI i) x = some (sl μ a i x) := by
  unfold stL
  rw [nI_clamp (by omega), if_pos ⟨nI_pos' (by omega), h⟩]
theorem ldB_n {N : Nat} {μ : MI} {a i : Nat} {b : Bool} (h : i < N) (hN : N ≤ 5000) (hb : μ.1 a i = bI b) : ldB N μ a (nI i) = some b := by
  unfold ldB
  rw [nI_clamp (by omega), if_pos ⟨nI_pos' (by omega), h⟩, hb]
  cases b <;> rfl
theorem stB_n {N : Nat} {μ : MI} {a i : Nat} {x : Bool} (h : i < N) (hN : N ≤ 5000) : stB N μ a (nI i) x = some (si μ a i (bI x)) := by
  unfold stB
  rw [nI_clamp (by omega), if_pos ⟨nI_pos' (by omega), h⟩]
theorem ldZ_b {μ : MI} {a j : Nat} {b : Bool} (hb : μ.1 a j = bI b) : ldZ μ a j = some b := by
  unfold ldZ
  rw [hb]; cases b <;> rfl
theorem si_ne {μ : MI} {a j b : Nat} {x : Int32} (h : b ≠ a) : (si μ a j x).1 b = μ.1 b := by unfold si; exact if_neg h
theorem si_at {μ : MI} {a j k : Nat} {x : Int32} : (si μ a j x).1 a k = if k = j then x else μ.1 a k := by unfold si; simp [upd]
theorem si_v {μ : MI} {a j b k : Nat} {x : Int32} : (si μ a j x).1 b k = if b = a ∧ k = j then x else μ.1 b k := by
  unfold si upd
  by_cases h : b = a <;> by_cases h2 : k = j <;> simp [h, h2]
theorem si_2 {μ : MI} {a j : Nat} {x : Int32} : (si μ a j x).2 = μ.2 := rfl
/-- all is as it was, but where P says -/
def ag (P : Nat → Nat → Prop) (μ μ' : MI) : Prop := (∀ a j, ¬ P a j → μ'.1 a j = μ.1 a j) ∧ μ'.2 = μ.2
theorem ag_rf (P : Nat → Nat → Prop) (μ : MI) : ag P μ μ := ⟨fun _ _ _ => rfl, rfl⟩
theorem ag_tr {P : Nat → Nat → Prop} {μ μ1 μ2 : MI} (h : ag P μ μ1) (h2 : ag P μ1 μ2) : ag P μ μ2 := ⟨fun a j q => (h2.1 a j q).trans (h.1 a j q), h2.2.trans h.2⟩
theorem ag_mo {P Q : Nat → Nat → Prop} {μ μ1 : MI} (h : ag P μ μ1) (q : ∀ a j, P a j → Q a j) : ag Q μ μ1 := ⟨fun a j z => h.1 a j (fun y => z (q a j y)), h.2⟩
theorem ag_si {P : Nat → Nat → Prop} {μ : MI} {a j : Nat} {x : Int32} (h : P a j) : ag P μ (si μ a j x) := ⟨fun b k q => by by_cases e : b = a ∧ k = j; (exact absurd (e.1 ▸ e.2 ▸ h) q); rw [si_v, if_neg e], rfl⟩
theorem ag_st {P : Nat → Nat → Prop} {μ μ1 : MI} {a j : Nat} {x : Int32} (h : ag P μ μ1) (hp : P a j) : ag P μ (si μ1 a j x) := ag_tr h (ag_si hp)
/-! loops -/
theorem lp_find {σ ρ : Type} {step : σ → Option (σ ⊕ ρ)} (enc : Nat → σ) (P : Nat → Bool) (r0 : ρ) (r1 : Nat → ρ) (N : Nat) (hN : N < 50000) (h : ∀ k, k < N → P k = false → step (enc k) = some (.inl (enc (k + 1)))) (h1 : ∀ k, k < N → P k = true → step (enc k) = some (.inr (r1 k))) (h0 : step (enc N) = some (.inr r0)) :
    (∃ k, k < N ∧ P k = true ∧ (∀ j, j < k → P j = false) ∧ lp step FUEL (enc 0) = some (r1 k)) ∨ ((∀ k, k < N → P k = false) ∧ lp step FUEL (enc 0) = some r0) := by
  by_cases hx : ∃ k, k < N ∧ P k = true
  · have : ∃ k, k < N ∧ P k = true ∧ ∀ j, j < k → P j = false := by
      obtain ⟨k, hk, hp⟩ := hx
      induction k using Nat.strongRecOn with
      | ind k ih =>
        by_cases hy : ∃ j, j < k ∧ P j = true
        · obtain ⟨j, hj, hq⟩ := hy
          exact ih j hj (by omega) hq
        · refine ⟨k, hk, hp, fun j hj => ?_⟩
          cases hq : P j
          · rfl
          · exact absurd ⟨j, hj, hq⟩ hy
    obtain ⟨k, hk, hp, hm⟩ := this
    exact Or.inl ⟨k, hk, hp, hm, lp_ex0 enc (r1 k) k N (by omega) hN (fun i hi => h i (by omega) (hm i hi)) (h1 k hk hp)⟩
  · have hall : ∀ k, k < N → P k = false := fun k hk => by
      cases hq : P k
      · rfl
      · exact absurd ⟨k, hk, hq⟩ hx
    exact Or.inr ⟨hall, lp_seq enc N hN (fun i hi => h i hi (hall i hi)) h0⟩
/-- the first place -/
def fnd (P : Nat → Bool) : Nat → Option Nat
  | 0 => none
  | n + 1 => (fnd P n).elim (if P n = true then some n else none) some
theorem fnd_none {P : Nat → Bool} : ∀ {n : Nat}, (∀ k, k < n → P k = false) → fnd P n = none
  | 0, _ => rfl
  | n + 1, h => by
    unfold fnd
    rw [fnd_none (fun k hk => h k (by omega)), h n (by omega)]
    rfl
theorem fnd_some {P : Nat → Bool} {k : Nat} (hp : P k = true) (hm : ∀ j, j < k → P j = false) : ∀ {n : Nat}, k < n → fnd P n = some k
  | n + 1, h => by
    unfold fnd
    by_cases e : k = n
    · subst e
      rw [fnd_none hm, hp]
      rfl
    · rw [fnd_some hp hm (by omega : k < n)]
      rfl
theorem fnd_cases (P : Nat → Bool) (n : Nat) : (∃ k, k < n ∧ P k = true ∧ (∀ j, j < k → P j = false) ∧ fnd P n = some k) ∨ ((∀ k, k < n → P k = false) ∧ fnd P n = none) := by
  induction n with
  | zero => exact Or.inr ⟨fun k hk => absurd hk (Nat.not_lt_zero _), rfl⟩
  | succ n ih =>
    rcases ih with ⟨k, hk, hp, hm, e⟩ | ⟨hall, e⟩
    · exact Or.inl ⟨k, by omega, hp, hm, fnd_some hp hm (by omega)⟩
    · cases hn : P n
      · have : ∀ k, k < n + 1 → P k = false := fun k hk => by
          by_cases e : k = n
          · subst e; exact hn
          · exact hall k (by omega)
        exact Or.inr ⟨this, fnd_none this⟩
      · exact Or.inl ⟨n, by omega, hn, hall, fnd_some hn hall (by omega)⟩
theorem fnd_isNone {P : Nat → Bool} {n : Nat} : fnd P n = none ↔ ∀ k, k < n → P k = false := by
  rcases fnd_cases P n with ⟨k, hk, hp, _, e⟩ | ⟨h, e⟩
  · rw [e]
    exact ⟨fun q => (by cases q), fun q => (by rw [q k hk] at hp; cases hp)⟩
  · rw [e]; exact ⟨fun _ => h, fun _ => rfl⟩
theorem lp_fnd {σ ρ : Type} {step : σ → Option (σ ⊕ ρ)} (enc : Nat → σ) (P : Nat → Bool) (r0 : ρ) (r1 : Nat → ρ) (N : Nat) (hN : N < 50000) (h : ∀ k, k < N → P k = false → step (enc k) = some (.inl (enc (k + 1)))) (h1 : ∀ k, k < N → P k = true → step (enc k) = some (.inr (r1 k))) (h0 : step (enc N) = some (.inr r0)) : lp step FUEL (enc 0) = some ((fnd P N).elim r0 r1) := by
  rcases lp_find enc P r0 r1 N hN h h1 h0 with ⟨k, hk, hp, hm, e⟩ | ⟨hall, e⟩
  · rw [e, fnd_some hp hm hk]; rfl
  · rw [e, fnd_none hall]; rfl
/-- all of them -/
def al (P : Nat → Bool) : Nat → Bool
  | 0 => true
  | k + 1 => al P k && P k
theorem al_iff {P : Nat → Bool} : ∀ {n : Nat}, al P n = true ↔ ∀ k, k < n → P k = true
  | 0 => ⟨fun _ k hk => absurd hk (Nat.not_lt_zero _), fun _ => rfl⟩
  | n + 1 => by
    unfold al
    rw [Bool.and_eq_true, al_iff]
    constructor
    · rintro ⟨h1, h2⟩ k hk
      by_cases e : k = n
      · subst e; exact h2
      · exact h1 k (by omega)
    · exact fun h => ⟨fun k hk => h k (by omega), h n (by omega)⟩
/-- sums, sets as bits -/
def sm (h : Nat → Nat) : Nat → Nat
  | 0 => 0
  | k + 1 => sm h k + h k
theorem sm_cg {f g : Nat → Nat} : ∀ {n : Nat}, (∀ k, k < n → f k = g k) → sm f n = sm g n
  | 0, _ => rfl
  | n + 1, h => by unfold sm; rw [sm_cg (fun k hk => h k (by omega)), h n (by omega)]
theorem sm_le {f : Nat → Nat} {c : Nat} : ∀ {n : Nat}, (∀ k, k < n → f k ≤ c) → sm f n ≤ n * c
  | 0, _ => Nat.zero_le _
  | n + 1, h => by
    unfold sm
    have h1 := sm_le (n := n) (fun k hk => h k (by omega))
    have h2 := h n (by omega)
    rw [Nat.succ_mul]; omega
theorem sm_mono {f g : Nat → Nat} : ∀ {n : Nat}, (∀ k, k < n → f k ≤ g k) → sm f n ≤ sm g n
  | 0, _ => Nat.le_refl _
  | n + 1, h => by
    unfold sm
    have h1 := sm_mono (n := n) (fun k hk => h k (by omega))
    have h2 := h n (by omega)
    omega
def bs (P : Nat → Bool) : Nat → Nat
  | 0 => 0
  | k + 1 => bs P k ||| cond (P k) (2 ^ k) 0
theorem bs_lt (P : Nat → Bool) : ∀ n, bs P n < 2 ^ n
  | 0 => Nat.one_pos
  | n + 1 => by
    unfold bs
    refine Nat.or_lt_two_pow (Nat.lt_of_lt_of_le (bs_lt P n) (Nat.pow_le_pow_right (by decide) (by omega))) ?_
    cases P n
    · exact Nat.two_pow_pos _
    · exact Nat.pow_lt_pow_right (by decide) (by omega)
theorem bs_tb (P : Nat → Bool) (i : Nat) : ∀ n, (bs P n).testBit i = (decide (i < n) && P i)
  | 0 => by unfold bs; simp
  | n + 1 => by
    unfold bs
    rw [Nat.testBit_or, bs_tb P i n]
    by_cases e : i = n
    · subst e
      cases hp : P i <;> simp [Nat.testBit_two_pow_self]
    · have h1 : (cond (P n) (2 ^ n) 0).testBit i = false := by
        cases P n
        · simp
        · simp only [Bool.cond_true, Nat.testBit_two_pow]; simp; omega
      rw [h1, Bool.or_false]
      have : (i < n) ↔ (i < n + 1) := by omega
      simp [this]
theorem bs_cg {P Q : Nat → Bool} : ∀ {n : Nat}, (∀ k, k < n → P k = Q k) → bs P n = bs Q n
  | 0, _ => rfl
  | n + 1, h => by unfold bs; rw [bs_cg (fun k hk => h k (by omega)), h n (by omega)]
