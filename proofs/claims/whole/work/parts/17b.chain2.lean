/-! ===== chain: the class's numbers for owners, its marks ===== -/
def sbit (x : Int32) (b : Nat) : Bool := x.toBitVec.getLsbD b
theorem b1_bits : ∀ i, i < 32 → (1 : Int32).toBitVec.getLsbD i = decide (i = 0) := by decide +kernel
theorem sb_get {x : Int32} {b : Nat} (hb : b < 32) : (((x >>> (nI b &&& 31)) &&& 1) = 1) = (sbit x b = true) := by
  have e1 : ((x >>> (nI b &&& 31)) &&& 1) = if sbit x b = true then (1 : Int32) else 0 := by
    apply Int32.toBitVec_inj.1
    rw [Int32.toBitVec_and, Int32.toBitVec_shiftRight]
    apply BitVec.eq_of_getLsbD_eq
    intro i hi
    rw [BitVec.getLsbD_and, BitVec.getLsbD_sshiftRight', q_sl b hb, b1_bits i hi]
    by_cases z : i = 0
    · subst z
      rw [if_pos (show b + 0 < 32 by omega), Nat.add_zero]
      unfold sbit
      cases x.toBitVec.getLsbD b <;> rfl
    · rw [decide_eq_false z, Bool.and_false]
      split
      · rw [b1_bits i hi, decide_eq_false z]
      · exact BitVec.getLsbD_zero.symm
  rw [e1]
  cases sbit x b
  · rw [if_neg (by decide)]; exact propext ⟨fun z => absurd z (by decide), fun z => by cases z⟩
  · rw [if_pos rfl]; exact propext ⟨fun _ => rfl, fun _ => rfl⟩
theorem sb_or {x : Int32} {b j : Nat} (hb : b < 32) (hj : j < 32) : sbit (x ||| (1 <<< (nI b &&& 31))) j = (sbit x j || decide (j = b)) := by
  unfold sbit
  rw [Int32.toBitVec_or, Int32.toBitVec_shiftLeft, BitVec.getLsbD_or, BitVec.getLsbD_shiftLeft', q_sl b hb, decide_eq_true hj, b1_bits (j - b) (by omega), Bool.true_and]
  congr 1
  by_cases z : j < b
  · rw [decide_eq_true z, decide_eq_false (show ¬ j = b by omega)]; rfl
  · rw [decide_eq_false z, Bool.not_false, Bool.true_and]
    exact decide_eq_decide.mpr (by omega)
theorem sb_0 (j : Nat) : sbit 0 j = false := BitVec.getLsbD_zero
/-- is it marked -/
def sn (μ : MI) (c : Nat) : Bool := sbit (μ.1 31 (c / 32)) (c % 32)
theorem c_isSeen {μ : MI} {c : Nat} (hc : c < 4096) : Changes_isSeen (nI c) μ = some (sn μ c) := by
  have e0 : (0 : Int32) ≤ nI c := by rw [li_0]; exact nI_le (Nat.zero_le _) (by omega)
  have e1 : nI c < 4096 := by rw [li_4096]; exact nI_lt hc (by omega)
  have e2 : nI c / 32 = nI (c / 32) := by rw [li_32]; exact pk_div (by omega) (by omega) (by omega)
  have e3 : rm32 (nI c) 32 = nI (c % 32) := by rw [li_32]; exact rm_n (by omega) (by omega) (by omega)
  unfold Changes_isSeen
  rw [if_pos e0, if_pos e1, e2, e3, ldA_n (show c / 32 < 128 by omega) (by omega)]
  simp only [Option.bind_some, sb_get (show c % 32 < 32 by omega)]
  unfold sn
  rw [Bool.decide_eq_true]
def mkd (μ : MI) (c : Nat) : MI := si μ 31 (c / 32) (μ.1 31 (c / 32) ||| (1 <<< (nI (c % 32) &&& 31)))
theorem c_markSeen {μ : MI} {c : Nat} (hc : c < 4096) : Changes_markSeen (nI c) μ = some (mkd μ c) := by
  have e0 : (0 : Int32) ≤ nI c := by rw [li_0]; exact nI_le (Nat.zero_le _) (by omega)
  have e1 : nI c < 4096 := by rw [li_4096]; exact nI_lt hc (by omega)
  have e2 : nI c / 32 = nI (c / 32) := by rw [li_32]; exact pk_div (by omega) (by omega) (by omega)
  have e3 : rm32 (nI c) 32 = nI (c % 32) := by rw [li_32]; exact rm_n (by omega) (by omega) (by omega)
  unfold Changes_markSeen
  rw [if_pos e0, decide_eq_true e1, e2, e3, ldA_n (show c / 32 < 128 by omega) (by omega)]
  simp only [Option.bind_some, if_true]
  rw [stA_n (show c / 32 < 128 by omega) (by omega)]
  rfl
theorem sn_mkd {μ : MI} {c x : Nat} : sn (mkd μ c) x = (sn μ x || decide (x = c)) := by
  unfold sn mkd
  rw [si_at]
  by_cases z : x / 32 = c / 32
  · rw [if_pos z, sb_or (show c % 32 < 32 by omega) (show x % 32 < 32 by omega), z]
    congr 1
    exact decide_eq_decide.mpr (by omega)
  · rw [if_neg z, decide_eq_false (show ¬ x = c from fun y => z (by rw [y])), Bool.or_false]
theorem ag_mkd (μ : MI) (c : Nat) : ag (fun a _ => a = 31) μ (mkd μ c) := ag_si rfl
def c3 (o : Nat) : Nat := if o = 0 then 3 else o - 1
def kd (g : Nat → Nat) : Nat → Nat
  | 0 => 0
  | k + 1 => kd g k ||| c3 (g k) * 2 ^ (2 * k)
theorem c3_lt {o : Nat} (h : o ≤ 3) : c3 o < 4 := by unfold c3; split <;> omega
theorem c3_hi {o i : Nat} (h : o ≤ 3) (hi : 2 ≤ i) : (c3 o).testBit i = false :=
  Nat.testBit_lt_two_pow (Nat.lt_of_lt_of_le (c3_lt h) (show 2 ^ 2 ≤ 2 ^ i from Nat.pow_le_pow_right (by decide) hi))
theorem three_tb (i : Nat) : (3 : Nat).testBit i = decide (i < 2) := Nat.testBit_two_pow_sub_one 2 i
theorem kd_tb {g : Nat → Nat} : ∀ {n : Nat}, (∀ f, f < n → g f ≤ 3) → ∀ i, (kd g n).testBit i = (decide (i < 2 * n) && (c3 (g (i / 2))).testBit (i % 2))
  | 0, _, i => by
    rw [decide_eq_false (show ¬ i < 2 * 0 by omega), Bool.false_and]
    exact Nat.zero_testBit i
  | n + 1, h, i => by
    show (kd g n ||| c3 (g n) * 2 ^ (2 * n)).testBit i = _
    rw [Nat.testBit_or, kd_tb (fun f hf => h f (by omega)) i, Nat.testBit_mul_two_pow]
    by_cases a : i < 2 * n
    · rw [decide_eq_true a, decide_eq_false (show ¬ 2 * n ≤ i by omega), decide_eq_true (show i < 2 * (n + 1) by omega), Bool.false_and, Bool.or_false]
    · by_cases b : i < 2 * n + 2
      · have e1 : i / 2 = n := by omega
        have e2 : i - 2 * n = i % 2 := by omega
        rw [decide_eq_false a, decide_eq_true (show 2 * n ≤ i by omega), decide_eq_true (show i < 2 * (n + 1) by omega), e1, e2, Bool.false_and, Bool.false_or]
      · rw [decide_eq_false a, decide_eq_false (show ¬ i < 2 * (n + 1) by omega), Bool.false_and, Bool.false_or, c3_hi (h n (by omega)) (show 2 ≤ i - 2 * n by omega), Bool.and_false]
theorem kd_lt {g : Nat → Nat} {n : Nat} (hn : n ≤ 6) (h : ∀ f, f < n → g f ≤ 3) : kd g n < 4096 := by
  have : kd g n < 2 ^ 12 := Nat.lt_pow_two_of_testBit _ fun i hi => by
    rw [kd_tb h, decide_eq_false (show ¬ i < 2 * n by omega), Bool.false_and]
  exact this
theorem kd_dig {g : Nat → Nat} {n a : Nat} (h : ∀ f, f < n → g f ≤ 3) (ha : a < n) : kd g n / 2 ^ (2 * a) &&& 3 = c3 (g a) := by
  apply Nat.eq_of_testBit_eq
  intro i
  rw [Nat.testBit_and, Nat.testBit_div_two_pow, kd_tb h, three_tb]
  by_cases z : i < 2
  · rw [show (i + 2 * a) / 2 = a by omega, show (i + 2 * a) % 2 = i by omega, decide_eq_true (show i + 2 * a < 2 * n by omega), decide_eq_true z, Bool.true_and, Bool.and_true]
  · rw [decide_eq_false z, Bool.and_false, c3_hi (h a ha) (by omega)]
theorem kd_inj {s t : Nat → Nat} {n : Nat} (hs : ∀ f, f < n → s f ≤ 3) (ht : ∀ f, f < n → t f ≤ 3) (e : kd s n = kd t n) (f : Nat) (hf : f < n) : s f = t f := by
  have h1 := kd_dig hs hf
  rw [e, kd_dig ht hf] at h1
  have h2 := hs f hf
  have h3 := ht f hf
  unfold c3 at h1
  split at h1 <;> split at h1 <;> omega
theorem up_le {s : Nat → Nat} {n f o p : Nat} (h : ∀ g, g < n → s g ≤ p) (ho : o ≤ p) : ∀ g, g < n → up s f o g ≤ p := fun g hg => by
  unfold up; split
  · exact ho
  · exact h g hg
theorem f3_tb {f i : Nat} : (decide (2 * f ≤ i) && decide (i - 2 * f < 2)) = decide (i / 2 = f) := by
  by_cases y : 2 * f ≤ i
  · rw [decide_eq_true y, Bool.true_and]
    exact decide_eq_decide.mpr (by omega)
  · rw [decide_eq_false y, Bool.false_and, decide_eq_false (by omega)]
theorem kd_up0 {s : Nat → Nat} {n f : Nat} (hs : ∀ g, g < n → s g ≤ 3) (hf : f < n) : kd s n ||| 3 * 2 ^ (2 * f) = kd (up s f 0) n := by
  apply Nat.eq_of_testBit_eq
  intro i
  rw [Nat.testBit_or, Nat.testBit_mul_two_pow, three_tb, f3_tb, kd_tb hs, kd_tb (up_le hs (Nat.zero_le 3))]
  by_cases z : i / 2 = f
  · rw [z, up_at, decide_eq_true rfl, decide_eq_true (show i < 2 * n by omega), show c3 0 = 3 from rfl, three_tb, decide_eq_true (show i % 2 < 2 by omega), Bool.or_true]; rfl
  · rw [up_ne z, decide_eq_false z, Bool.or_false]
theorem kd_upe {s e : Nat → Nat} {n f : Nat} (hs : ∀ g, g < n → s g ≤ 3) (he : ∀ g, g < n → e g ≤ 3) (hf : f < n) : (kd s n &&& (kd s n ^^^ (3 * 2 ^ (2 * f)))) ||| (kd e n &&& (3 * 2 ^ (2 * f))) = kd (up s f (e f)) n := by
  apply Nat.eq_of_testBit_eq
  intro i
  rw [Nat.testBit_or, andn_tb, Nat.testBit_and, Nat.testBit_mul_two_pow, three_tb, f3_tb, kd_tb hs, kd_tb he, kd_tb (up_le hs (he f hf))]
  by_cases z : i / 2 = f
  · rw [z, up_at, decide_eq_true rfl, Bool.not_true, Bool.and_false, Bool.and_true, Bool.false_or]
  · rw [up_ne z, decide_eq_false z, Bool.and_false, Bool.or_false, Bool.not_false, Bool.and_true]
theorem c_codeOf {t : Nat} {A : LV} {μ : MI} (h : CR t A μ) (w : WF A) : Changes_codeOf t μ = some (nI (kd A.ow A.n)) := by
  have hn := w.n6
  have hp := w.p3
  unfold Changes_codeOf
  have key : lp (Changes_codeOf_s1 μ t) FUEL (0, 0) = some (nI (kd A.ow A.n)) := by
    refine lp_seq (fun k => (nI (kd A.ow k), nI k)) A.n (by omega) (fun f hf => ?_) ?_
    · have o1 := w.owl hf
      have x3 : (if nI (cl (A.ow f)) = 9 then some (3 : Int32) else some (nI (cl (A.ow f)))) = some (nI (c3 (A.ow f))) := by
        have := cl_lt o1 hp
        have e9 : (nI (cl (A.ow f)) = 9) = (A.ow f = 0) := by rw [li_9, nI_eq (by omega) (by omega), cl_9 o1 hp]
        simp only [e9]
        unfold c3 cl
        by_cases z : A.ow f = 0
        · rw [if_pos z, if_pos z]; rfl
        · rw [if_neg z, if_neg z, if_neg z]
      unfold Changes_codeOf_s1
      simp only []
      rw [h.hn, if_pos (nI_lt hf (by omega)), c_ownerOf h w hf]
      simp only [Option.bind_some]
      rw [x3]
      simp only [Option.bind_some, li_2, li_1, pk_mul, nI_add]
      rw [shl_v (c3_lt (by omega)) (show 2 * f < 29 by omega), fa_or]
      rfl
    · simp only [Changes_codeOf_s1, h.hn, if_neg (nI_nlt (Nat.le_refl _) (show A.n < 2 ^ 31 by omega))]
  rw [key]; rfl
theorem c_asOne3 {t : Nat} {A : LV} {μ : MI} (h : CR t A μ) (w : WF A) {o q : Nat} (ho : o ≤ A.p) (hq : q ≤ A.p) : Land_asOne t (nI (c3 o)) (nI (c3 q)) μ = some (A.one o q) := by
  have hp := w.p3
  have n3 : inR (nI 3) A.p = false := by rw [inR_n (f := 3) (n := A.p) (by omega), decide_eq_false (show ¬ 3 < A.p by omega)]
  rcases o with _ | o
  · unfold Land_asOne
    rw [c_isPerson h w, c_isPerson h w, one_0, show nI (c3 0) = nI 3 from rfl, n3]
    simp only [Option.bind_some, Option.bind_none, if_true, if_false, ite_true, ite_false, Bool.false_eq_true, Bool.true_eq_false, Bool.not_true, Bool.not_false, decide_true, decide_false, decide_eq_true_eq, Sum.elim_inl, Sum.elim_inr, ne_eq, not_true, not_false_iff, reduceIte, reduceCtorEq, Bool.cond_true, Bool.cond_false]
  rcases q with _ | q
  · unfold Land_asOne
    rw [c_isPerson h w, c_isPerson h w, one_0r, show nI (c3 0) = nI 3 from rfl, n3]
    cases inR (nI (c3 (o + 1))) A.p <;> simp only [Option.bind_some, Option.bind_none, if_true, if_false, ite_true, ite_false, Bool.false_eq_true, Bool.true_eq_false, Bool.not_true, Bool.not_false, decide_true, decide_false, decide_eq_true_eq, Sum.elim_inl, Sum.elim_inr, ne_eq, not_true, not_false_iff, reduceIte, reduceCtorEq, Bool.cond_true, Bool.cond_false]
  have e : ∀ k, c3 (k + 1) = cl (k + 1) := fun k => by
    unfold c3 cl
    rw [if_neg (by omega), if_neg (by omega)]
  rw [e, e]
  exact c_asOne h w ho hq
theorem c_chLawful {A : LV} {μ : MI} (h : CR 1 A μ) (w : WF A) (hb : BRS A 33 μ) {t : Nat → Nat} (ht : ∀ f, f < A.n → t f ≤ A.p) : Changes_isLawful 1 (nI (kd t A.n)) μ = some (lw A t) := by
  have hn := w.n6
  have hp := w.p3
  have t3 : ∀ f, f < A.n → t f ≤ 3 := fun f hf => by have := ht f hf; omega
  have k12 := kd_lt hn t3
  have stepv : ∀ a b, a < 6 → b < 6 → Changes_isLawful_s2 μ (nI a) 1 (nI (kd t A.n)) (nI b) = if bad A t a b = true then some (.inr (.inr false)) else some (.inl (nI (b + 1))) := by
    intro a b ha hb6
    have b6 := Nat.lt_of_lt_of_le (bs_lt (fun b => A.br a b) A.n) (two_le hn)
    have bit : (((nI (bs (fun b => A.br a b) A.n) >>> (nI b &&& 31)) &&& 1) = 1) = (A.br a b = true) := by
      rw [li_1, tbv (by omega) (by omega), bs_tb]
      by_cases z : b < A.n
      · rw [decide_eq_true z, Bool.true_and]
      · rw [decide_eq_false z, Bool.false_and, br_ou w (by omega)]
    unfold Changes_isLawful_s2
    rw [if_pos (show nI b < 6 from by rw [li_6]; exact nI_lt hb6 (by omega)), ldA_n (show a < 6 by omega) (by omega), hb a ha]
    simp only [Option.bind_some, bit, Bool.decide_eq_true]
    unfold bad
    cases hr : A.br a b
    · simp only [Option.bind_some, Option.bind_none, if_true, if_false, ite_true, ite_false, Bool.false_eq_true, Bool.true_eq_false, Bool.not_true, Bool.not_false, decide_true, decide_false, decide_eq_true_eq, Sum.elim_inl, Sum.elim_inr, ne_eq, not_true, not_false_iff, reduceIte, reduceCtorEq, Bool.cond_true, Bool.cond_false, Bool.false_and, li_1, nI_add]
    · have a1 : a < A.n := by
        rcases Nat.lt_or_ge a A.n with z | z
        · exact z
        · rw [br_ou2 w z] at hr; cases hr
      have b1 : b < A.n := by
        rcases Nat.lt_or_ge b A.n with z | z
        · exact z
        · rw [br_ou w z] at hr; cases hr
      have as : Land_asOne 1 ((nI (kd t A.n) >>> ((2 * nI a) &&& 31)) &&& 3) ((nI (kd t A.n) >>> ((2 * nI b) &&& 31)) &&& 3) μ = some (A.one (t a) (t b)) := by
        rw [li_2, li_3, pk_mul, pk_mul, shr_v (by omega) (show 2 * a < 31 by omega), shr_v (by omega) (show 2 * b < 31 by omega), fa_and, fa_and, kd_dig t3 a1, kd_dig t3 b1]
        exact c_asOne3 h w (ht a a1) (ht b b1)
      rw [as]
      cases A.one (t a) (t b) <;> simp only [Option.bind_some, Option.bind_none, if_true, if_false, ite_true, ite_false, Bool.false_eq_true, Bool.true_eq_false, Bool.not_true, Bool.not_false, decide_true, decide_false, decide_eq_true_eq, Sum.elim_inl, Sum.elim_inr, ne_eq, not_true, not_false_iff, reduceIte, reduceCtorEq, Bool.cond_true, Bool.cond_false, Bool.true_and, li_1, nI_add]
  have inner : ∀ a, a < 6 → lp (Changes_isLawful_s2 μ (nI a) 1 (nI (kd t A.n))) FUEL (nI (a + 1)) = some ((fnd (fun j => bad A t a (a + 1 + j)) (6 - (a + 1))).elim (.inl ()) (fun _ => .inr false)) := by
    intro a ha
    refine lp_fnd (fun j => nI (a + 1 + j)) (fun j => bad A t a (a + 1 + j)) _ _ (6 - (a + 1)) (by omega) (fun k hk hq => ?_) (fun k hk hq => ?_) ?_
    · rw [stepv a _ ha (by omega), if_neg (by rw [hq]; decide)]; rfl
    · rw [stepv a _ ha (by omega), if_pos hq]
    · simp only [Changes_isLawful_s2, li_6, if_neg (nI_nlt (show 6 ≤ a + 1 + (6 - (a + 1)) by omega) (show a + 1 + (6 - (a + 1)) < 2 ^ 31 by omega))]
  have outer : lp (Changes_isLawful_s1 μ 1 (nI (kd t A.n))) FUEL 0 = some ((fnd (fun a => (fnd (fun j => bad A t a (a + 1 + j)) (6 - (a + 1))).isSome) 6).elim (.inl ()) (fun _ => .inr false)) := by
    refine lp_fnd (fun j => nI j) (fun a => (fnd (fun j => bad A t a (a + 1 + j)) (6 - (a + 1))).isSome) _ _ 6 (by omega) (fun k hk hq => ?_) (fun k hk hq => ?_) ?_
    · unfold Changes_isLawful_s1
      rw [if_pos (show nI k < 6 from by rw [li_6]; exact nI_lt hk (by omega))]
      simp only [li_1, nI_add, Option.bind_some, inner k hk]
      cases hx : fnd (fun j => bad A t k (k + 1 + j)) (6 - (k + 1))
      · rfl
      · rw [hx] at hq; cases hq
    · unfold Changes_isLawful_s1
      rw [if_pos (show nI k < 6 from by rw [li_6]; exact nI_lt hk (by omega))]
      simp only [li_1, nI_add, Option.bind_some, inner k hk]
      cases hx : fnd (fun j => bad A t k (k + 1 + j)) (6 - (k + 1))
      · rw [hx] at hq; cases hq
      · rfl
    · simp only [Changes_isLawful_s1, li_6, nI_ltI (show 6 < 2 ^ 31 by omega) (show 6 < 2 ^ 31 by omega), Nat.lt_irrefl, if_false]
  unfold Changes_isLawful
  rw [outer]
  rcases fnd_cases (fun a => (fnd (fun j => bad A t a (a + 1 + j)) (6 - (a + 1))).isSome) 6 with ⟨a, ha, hq, _, e⟩ | ⟨hall, e⟩
  · rw [e]
    have : lw A t = false := by
      rcases fnd_cases (fun j => bad A t a (a + 1 + j)) (6 - (a + 1)) with ⟨j, hj, hx, _, _⟩ | ⟨_, e2⟩
      · cases hl : lw A t
        · rfl
        · exfalso
          have hx : bad A t a (a + 1 + j) = true := hx
          have hr : A.br a (a + 1 + j) = true := by
            unfold bad at hx
            rw [Bool.and_eq_true] at hx; exact hx.1
          have b1 : a + 1 + j < A.n := by
            rcases Nat.lt_or_ge (a + 1 + j) A.n with z | z
            · exact z
            · rw [br_ou w z] at hr; cases hr
          have := (lw_iff w).mp hl a (a + 1 + j) (by omega) b1
          rw [this] at hx; cases hx
      · simp only [e2] at hq; cases hq
    rw [this]; rfl
  · rw [e]
    have : lw A t = true := by
      rw [lw_iff w]
      have k1 : ∀ a b, a < b → b < A.n → bad A t a b = false := fun a b hab hb => by
        have h1 := hall a (by omega)
        have h2 : fnd (fun j => bad A t a (a + 1 + j)) (6 - (a + 1)) = none := by
          cases hq : fnd (fun j => bad A t a (a + 1 + j)) (6 - (a + 1))
          · rfl
          · simp only [hq] at h1; cases h1
        have h3 := fnd_isNone.mp h2 (b - (a + 1)) (by omega)
        have h4 : a + 1 + (b - (a + 1)) = b := by omega
        rw [h4] at h3; exact h3
      intro a b ha hb
      rcases Nat.lt_trichotomy a b with z | z | z
      · exact k1 a b z hb
      · rw [z]; exact bad_di w t b
      · rw [bad_sy w]; exact k1 b a z ha
    rw [this]; rfl
theorem c_reach {μ : MI} {m c : Nat} (e : μ.1 30 2 = nI m) (hm : m < 729) : Changes_reach (nI c) μ = some (si (si μ 32 m (nI c)) 30 2 (nI (m + 1))) := by
  have e0 : (0 : Int32) ≤ nI m := by rw [li_0]; exact nI_le (Nat.zero_le _) (by omega)
  have e1 : nI m < 729 := by rw [li_729]; exact nI_lt hm (by omega)
  unfold Changes_reach
  rw [e, if_pos e0, decide_eq_true e1]
  simp only [Option.bind_some, if_true]
  rw [stA_n hm (by omega)]
  simp only [Option.bind_some]
  rw [si_ne (by omega), e, li_1, nI_add]
  rfl
