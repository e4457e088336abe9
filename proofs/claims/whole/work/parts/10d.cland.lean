/-! ===== the class's Land, by its value ===== -/
theorem c_isField {t A μ} (h : CR t A μ) (w : WF A) (x : Int32) : Land_isField t x μ = some (inR x A.n) := by
  have hn := w.n6
  unfold Land_isField inR
  rw [h.hn]
  have e1 : ((0 : Int32) ≤ x) = (0 ≤ x.toInt) := by rw [Int32.le_iff_toInt_le]; rfl
  have e2 : (x < nI A.n) = (x.toInt < (A.n : Int)) := by rw [Int32.lt_iff_toInt_lt, nI_toInt (by omega)]
  have e3 : (x < (6 : Int32)) = (x.toInt < 6) := by rw [Int32.lt_iff_toInt_lt]; rfl
  simp only [e1, e2, e3]
  by_cases h1 : 0 ≤ x.toInt
  · by_cases h2 : x.toInt < (A.n : Int)
    · simp only [if_pos h1, if_pos h2, Option.bind_some]; congr 1; apply decide_eq_decide.mpr; omega
    · simp only [if_pos h1, if_neg h2, Option.bind_some]; congr 1; symm; apply decide_eq_false; omega
  · simp only [if_neg h1, Option.bind_some]; congr 1; symm; apply decide_eq_false; omega
theorem c_isPerson {t A μ} (h : CR t A μ) (w : WF A) (x : Int32) : Land_isPerson t x μ = some (inR x A.p) := by
  have hn := w.p3
  unfold Land_isPerson inR
  rw [h.hp]
  have e1 : ((0 : Int32) ≤ x) = (0 ≤ x.toInt) := by rw [Int32.le_iff_toInt_le]; rfl
  have e2 : (x < nI A.p) = (x.toInt < (A.p : Int)) := by rw [Int32.lt_iff_toInt_lt, nI_toInt (by omega)]
  have e3 : (x < (3 : Int32)) = (x.toInt < 3) := by rw [Int32.lt_iff_toInt_lt]; rfl
  simp only [e1, e2, e3]
  by_cases h1 : 0 ≤ x.toInt
  · by_cases h2 : x.toInt < (A.p : Int)
    · simp only [if_pos h1, if_pos h2, Option.bind_some]; congr 1; apply decide_eq_decide.mpr; omega
    · simp only [if_pos h1, if_neg h2, Option.bind_some]; congr 1; symm; apply decide_eq_false; omega
  · simp only [if_neg h1, Option.bind_some]; congr 1; symm; apply decide_eq_false; omega
theorem c_isOwner {t A μ} (h : CR t A μ) (w : WF A) (x : Int32) : Land_isOwner t x μ = some (decide (x = 9) || inR x A.p) := by
  unfold Land_isOwner
  rw [c_isPerson h w]
  by_cases e : x = 9 <;> simp [e]
theorem c_areTwo {t A μ} (h : CR t A μ) (w : WF A) (x y : Int32) : Land_areTwo t x y μ = some (inR x A.n && inR y A.n && decide (x ≠ y)) := by
  unfold Land_areTwo
  rw [c_isField h w, c_isField h w]
  cases inR x A.n <;> cases inR y A.n <;> simp
theorem c_acresOf {t A μ} (h : CR t A μ) (w : WF A) {f : Nat} (hf : f < A.n) : Land_acresOf t (nI f) μ = some (nI (A.ac f)) := by
  have hn := w.n6
  unfold Land_acresOf
  rw [c_isField h w, inR_n (by omega), decide_eq_true hf]
  simp only [Option.bind_some, Option.bind_none, if_true, if_false, ite_true, ite_false, Bool.false_eq_true, Bool.true_eq_false, Bool.not_true, Bool.not_false, decide_true, decide_false, decide_eq_true_eq, Sum.elim_inl, Sum.elim_inr, ne_eq, not_true, not_false_iff, reduceIte, reduceCtorEq, Bool.cond_true, Bool.cond_false, ldA_n (show f < 6 by omega) (by omega), h.hac hf]
theorem c_ownerOf {t A μ} (h : CR t A μ) (w : WF A) {f : Nat} (hf : f < A.n) : Land_ownerOf t (nI f) μ = some (nI (cl (A.ow f))) := by
  have hn := w.n6
  unfold Land_ownerOf
  rw [c_isField h w, inR_n (by omega), decide_eq_true hf]
  simp only [Option.bind_some, Option.bind_none, if_true, if_false, ite_true, ite_false, Bool.false_eq_true, Bool.true_eq_false, Bool.not_true, Bool.not_false, decide_true, decide_false, decide_eq_true_eq, Sum.elim_inl, Sum.elim_inr, ne_eq, not_true, not_false_iff, reduceIte, reduceCtorEq, Bool.cond_true, Bool.cond_false, ldA_n (show f < 6 by omega) (by omega), h.how hf]
theorem c_touchOf {t A μ} (h : CR t A μ) (w : WF A) {a b : Nat} (ha : a < A.n) (hb : b < A.n) : Land_touchOf t (nI a) (nI b) μ = some (nI (A.to a b)) := by
  have hn := w.n6
  unfold Land_touchOf
  rw [c_isField h w, c_isField h w, inR_n (by omega), decide_eq_true ha, inR_n (by omega), decide_eq_true hb]
  simp only [Option.bind_some, Option.bind_none, if_true, if_false, ite_true, ite_false, Bool.false_eq_true, Bool.true_eq_false, Bool.not_true, Bool.not_false, decide_true, decide_false, decide_eq_true_eq, Sum.elim_inl, Sum.elim_inr, ne_eq, not_true, not_false_iff, reduceIte, reduceCtorEq, Bool.cond_true, Bool.cond_false, li_6, pk_mul, nI_add, ldA_n (show a * 6 + b < 36 by omega) (by omega), h.hto (show a < 6 by omega) (show b < 6 by omega)]
theorem c_coinsOf {t A μ} (h : CR t A μ) (w : WF A) {q : Nat} (hq : q < A.p) : Land_coinsOf t (nI q) μ = some (iI (A.co q)) := by
  have hn := w.p3
  unfold Land_coinsOf
  rw [c_isPerson h w, inR_n (by omega), decide_eq_true hq]
  simp only [Option.bind_some, Option.bind_none, if_true, if_false, ite_true, ite_false, Bool.false_eq_true, Bool.true_eq_false, Bool.not_true, Bool.not_false, decide_true, decide_false, decide_eq_true_eq, Sum.elim_inl, Sum.elim_inr, ne_eq, not_true, not_false_iff, reduceIte, reduceCtorEq, Bool.cond_true, Bool.cond_false, ldA_n (show q < 3 by omega) (by omega), h.hco hq]
theorem c_kinOf {t A μ} (h : CR t A μ) (w : WF A) {q : Nat} (hq : q < A.p) : Land_kinOf t (nI q) μ = some (nI (cl (A.ki q))) := by
  have hn := w.p3
  unfold Land_kinOf
  rw [c_isPerson h w, inR_n (by omega), decide_eq_true hq]
  simp only [Option.bind_some, Option.bind_none, if_true, if_false, ite_true, ite_false, Bool.false_eq_true, Bool.true_eq_false, Bool.not_true, Bool.not_false, decide_true, decide_false, decide_eq_true_eq, Sum.elim_inl, Sum.elim_inr, ne_eq, not_true, not_false_iff, reduceIte, reduceCtorEq, Bool.cond_true, Bool.cond_false, ldA_n (show q < 3 by omega) (by omega), h.hki hq]
theorem c_worthTo {t A μ} (h : CR t A μ) (w : WF A) {o f : Nat} (ho : o ≤ A.p) (hf : f < A.n) : Land_worthTo t (nI (cl o)) (nI f) μ = some (nI (A.wt o f)) := by
  have hn := w.n6
  have hp := w.p3
  unfold Land_worthTo
  rw [c_isPerson h w, c_isField h w, inR_n (f := f) (by omega), decide_eq_true hf, inR_n (by have := cl_lt ho hp; omega)]
  rcases o with _ | o
  · rw [cl_0, decide_eq_false (by omega)]
    rfl
  · rw [cl_s, decide_eq_true (by omega)]
    simp only [Option.bind_some, Option.bind_none, if_true, if_false, ite_true, ite_false, Bool.false_eq_true, Bool.true_eq_false, Bool.not_true, Bool.not_false, decide_true, decide_false, decide_eq_true_eq, Sum.elim_inl, Sum.elim_inr, ne_eq, not_true, not_false_iff, reduceIte, reduceCtorEq, Bool.cond_true, Bool.cond_false, li_6, pk_mul, nI_add, ldA_n (show o * 6 + f < 18 by omega) (by omega), h.hwo (show o < A.p by omega) hf, wt_s]
theorem c_worthTo' {t A μ} (h : CR t A μ) (w : WF A) {q f : Nat} (hq : q < A.p) (hf : f < A.n) : Land_worthTo t (nI q) (nI f) μ = some (nI (A.wo q f)) := c_worthTo h w (o := q + 1) hq hf
theorem c_bars {t A μ} (h : CR t A μ) (w : WF A) {a b : Nat} (ha : a < 6) (hb : b < 6) : Land_bars t (nI a) (nI b) μ = some (A.br a b) := by
  unfold Land_bars
  rw [c_isField h w, c_isField h w, inR_n (by omega), inR_n (by omega)]
  by_cases h1 : a < A.n
  · by_cases h2 : b < A.n
    · rw [decide_eq_true h1, decide_eq_true h2]
      have t3 := w.t3 a b
      simp only [Option.bind_some, Option.bind_none, if_true, if_false, ite_true, ite_false, Bool.false_eq_true, Bool.true_eq_false, Bool.not_true, Bool.not_false, decide_true, decide_false, decide_eq_true_eq, Sum.elim_inl, Sum.elim_inr, ne_eq, not_true, not_false_iff, reduceIte, reduceCtorEq, Bool.cond_true, Bool.cond_false, li_6, pk_mul, nI_add, ldA_n (show a * 6 + b < 36 by omega) (by omega), h.hto ha hb, ldZ_b h.hC, LV.br]
      simp only [li_1, li_3, nI_eq (show A.to a b < 2 ^ 31 by omega) (show 1 < 2 ^ 31 by omega), nI_eq (show A.to a b < 2 ^ 31 by omega) (show 3 < 2 ^ 31 by omega)]
      by_cases e1 : A.to a b = 1
      · simp [e1]
      · by_cases e3 : A.to a b = 3 <;> simp [e1, e3]
    · rw [decide_eq_true h1, decide_eq_false h2, br_ou w (by omega)]
      simp only [Option.bind_some, Option.bind_none, if_true, if_false, ite_true, ite_false, Bool.false_eq_true, Bool.true_eq_false, Bool.not_true, Bool.not_false, decide_true, decide_false, decide_eq_true_eq, Sum.elim_inl, Sum.elim_inr, ne_eq, not_true, not_false_iff, reduceIte, reduceCtorEq, Bool.cond_true, Bool.cond_false]
  · rw [decide_eq_false h1, br_ou2 w (by omega)]
    simp only [Option.bind_some, Option.bind_none, if_true, if_false, ite_true, ite_false, Bool.false_eq_true, Bool.true_eq_false, Bool.not_true, Bool.not_false, decide_true, decide_false, decide_eq_true_eq, Sum.elim_inl, Sum.elim_inr, ne_eq, not_true, not_false_iff, reduceIte, reduceCtorEq, Bool.cond_true, Bool.cond_false]
theorem c_barBits {t A μ} (h : CR t A μ) (w : WF A) {a : Nat} (ha : a < 6) : Land_barBits t (nI a) μ = some (nI (bs (fun b => A.br a b) A.n)) := by
  have hn := w.n6
  unfold Land_barBits
  have key : lp (Land_barBits_s1 μ t (nI a)) FUEL (0, 0) = some (nI (bs (fun b => A.br a b) A.n)) := by
    refine lp_seq (fun k => (nI (bs (fun b => A.br a b) k), nI k)) A.n (by omega) (fun i hi => ?_) ?_
    · simp only [Land_barBits_s1, h.hn, if_pos (nI_lt hi (by omega)), c_bars h w ha (show i < 6 by omega), bs]
      cases A.br a i
      · simp only [Option.bind_some, Option.bind_none, if_true, if_false, ite_true, ite_false, Bool.false_eq_true, Bool.true_eq_false, Bool.not_true, Bool.not_false, decide_true, decide_false, decide_eq_true_eq, Sum.elim_inl, Sum.elim_inr, ne_eq, not_true, not_false_iff, reduceIte, reduceCtorEq, Bool.cond_true, Bool.cond_false, li_0, fa_or, li_1, nI_add]
      · simp only [Option.bind_some, Option.bind_none, if_true, if_false, ite_true, ite_false, Bool.false_eq_true, Bool.true_eq_false, Bool.not_true, Bool.not_false, decide_true, decide_false, decide_eq_true_eq, Sum.elim_inl, Sum.elim_inr, ne_eq, not_true, not_false_iff, reduceIte, reduceCtorEq, Bool.cond_true, Bool.cond_false, li_1, sh1 (show i < 29 by omega), fa_or, nI_add]
    · simp only [Land_barBits_s1, h.hn, if_neg (nI_nlt (Nat.le_refl _) (show A.n < 2 ^ 31 by omega))]
  rw [key]; rfl
theorem c_asOne {t A μ} (h : CR t A μ) (w : WF A) {o q : Nat} (ho : o ≤ A.p) (hq : q ≤ A.p) : Land_asOne t (nI (cl o)) (nI (cl q)) μ = some (A.one o q) := by
  have hp := w.p3
  unfold Land_asOne
  rw [c_isPerson h w, c_isPerson h w, inR_n (by have := cl_lt ho hp; omega), inR_n (by have := cl_lt hq hp; omega)]
  rcases o with _ | o
  · rw [cl_0, decide_eq_false (by omega), one_0]
    simp only [Option.bind_some, Option.bind_none, if_true, if_false, ite_true, ite_false, Bool.false_eq_true, Bool.true_eq_false, Bool.not_true, Bool.not_false, decide_true, decide_false, decide_eq_true_eq, Sum.elim_inl, Sum.elim_inr, ne_eq, not_true, not_false_iff, reduceIte, reduceCtorEq, Bool.cond_true, Bool.cond_false]
  rcases q with _ | q
  · rw [cl_0, cl_s, decide_eq_true (show o < A.p by omega), decide_eq_false (by omega), one_0r]
    simp only [Option.bind_some, Option.bind_none, if_true, if_false, ite_true, ite_false, Bool.false_eq_true, Bool.true_eq_false, Bool.not_true, Bool.not_false, decide_true, decide_false, decide_eq_true_eq, Sum.elim_inl, Sum.elim_inr, ne_eq, not_true, not_false_iff, reduceIte, reduceCtorEq, Bool.cond_true, Bool.cond_false]
  have k1 := w.kil (show o < A.p by omega)
  have k2 := w.kil (show q < A.p by omega)
  have l1 := cl_lt k1 hp
  have l2 := cl_lt k2 hp
  have e1 : (cl (A.ki o) = q) = (A.ki o = q + 1) := by
    have := cl_inj (o := A.ki o) (q := q + 1) (p := 3) (by omega) (by omega) (by omega)
    rw [cl_s] at this; exact this
  have e2 : (cl (A.ki q) = o) = (A.ki q = o + 1) := by
    have := cl_inj (o := A.ki q) (q := o + 1) (p := 3) (by omega) (by omega) (by omega)
    rw [cl_s] at this; exact this
  rw [cl_s, cl_s, decide_eq_true (show o < A.p by omega), decide_eq_true (show q < A.p by omega)]
  simp only [Option.bind_some, Option.bind_none, if_true, if_false, ite_true, ite_false, Bool.false_eq_true, Bool.true_eq_false, Bool.not_true, Bool.not_false, decide_true, decide_false, decide_eq_true_eq, Sum.elim_inl, Sum.elim_inr, ne_eq, not_true, not_false_iff, reduceIte, reduceCtorEq, Bool.cond_true, Bool.cond_false, ldZ_b h.hK, ldA_n (show o < 3 by omega) (show 3 ≤ 5000 by omega), ldA_n (show q < 3 by omega) (show 3 ≤ 5000 by omega), h.hki (show o < A.p by omega), h.hki (show q < A.p by omega), nI_eq (show o < 2 ^ 31 by omega) (show q < 2 ^ 31 by omega), nI_eq (show cl (A.ki o) < 2 ^ 31 by omega) (show q < 2 ^ 31 by omega), nI_eq (show cl (A.ki q) < 2 ^ 31 by omega) (show o < 2 ^ 31 by omega), e1, e2]
  unfold LV.one
  simp only [Nat.add_sub_cancel]
  by_cases g1 : o = q
  · simp [g1]
  · cases A.K
    · simp [g1]
    · by_cases g2 : A.ki o = q + 1 <;> by_cases g3 : A.ki q = o + 1 <;> simp [g1, g2, g3]
theorem c_firstOffence {t A μ} (h : CR t A μ) (w : WF A) {B : Nat} (hB : B < 2 ^ 31) : Land_firstOffence t (nI B) μ = some ((fo A (msk B A.ow)).elim (-4) (fun k => nI k)) := by
  have hn := w.n6
  unfold Land_firstOffence
  have inner : ∀ a, a < A.n → lp (Land_firstOffence_s2 μ t (nI B) (nI a)) FUEL (nI (a + 1)) = some ((fnd (fun j => bad A (msk B A.ow) a (a + 1 + j)) (A.n - (a + 1))).elim (.inl ()) (fun j => .inr (nI (10 * a + (a + 1 + j))))) := by
    intro a ha
    have stepv : ∀ j, j < A.n - (a + 1) → Land_firstOffence_s2 μ t (nI B) (nI a) (nI (a + 1 + j)) = if bad A (msk B A.ow) a (a + 1 + j) = true then some (.inr (.inr (nI (10 * a + (a + 1 + j))))) else some (.inl (nI (a + 1 + j + 1))) := by
      intro j hj
      have hb : a + 1 + j < A.n := by omega
      simp only [Land_firstOffence_s2, h.hn, if_pos (nI_lt hb (by omega)), li_1, li_10, tbv hB (show a < 31 by omega), tbv hB (show a + 1 + j < 31 by omega), c_bars h w (show a < 6 by omega) (show a + 1 + j < 6 by omega), c_ownerOf h w ha, c_ownerOf h w hb, c_asOne h w (w.owl ha) (w.owl hb), Option.bind_some, Option.bind_none, if_true, if_false, ite_true, ite_false, Bool.false_eq_true, Bool.true_eq_false, Bool.not_true, Bool.not_false, decide_true, decide_false, decide_eq_true_eq, Sum.elim_inl, Sum.elim_inr, ne_eq, not_true, not_false_iff, reduceIte, reduceCtorEq, Bool.cond_true, Bool.cond_false, pk_mul, nI_add]
      unfold bad msk
      cases B.testBit a
      · cases B.testBit (a + 1 + j)
        · cases A.br a (a + 1 + j)
          · simp
          · by_cases e : A.one (A.ow a) (A.ow (a + 1 + j)) = true <;> simp [e]
        · simp [one_0r]
      · simp [one_0]
    refine lp_fnd (fun j => nI (a + 1 + j)) (fun j => bad A (msk B A.ow) a (a + 1 + j)) _ _ (A.n - (a + 1)) (by omega) (fun k hk hp => ?_) (fun k hk hp => ?_) ?_
    · rw [stepv k hk, if_neg (by rw [hp]; decide)]; rfl
    · rw [stepv k hk, if_pos hp]
    · simp only [Land_firstOffence_s2, h.hn, if_neg (nI_nlt (show A.n ≤ a + 1 + (A.n - (a + 1)) by omega) (show a + 1 + (A.n - (a + 1)) < 2 ^ 31 by omega))]
  have outer : lp (Land_firstOffence_s1 μ t (nI B)) FUEL 0 = some ((fnd (fun a => (fnd (fun j => bad A (msk B A.ow) a (a + 1 + j)) (A.n - (a + 1))).isSome) A.n).elim (.inl ()) (fun a => (fnd (fun j => bad A (msk B A.ow) a (a + 1 + j)) (A.n - (a + 1))).elim (.inl ()) (fun j => .inr (nI (10 * a + (a + 1 + j)))))) := by
    refine lp_fnd (fun j => nI j) (fun a => (fnd (fun j => bad A (msk B A.ow) a (a + 1 + j)) (A.n - (a + 1))).isSome) _ _ A.n (by omega) (fun k hk hp => ?_) (fun k hk hp => ?_) ?_
    · simp only [Land_firstOffence_s1, h.hn, if_pos (nI_lt hk (by omega)), li_1, nI_add, Option.bind_some, inner k hk]
      cases hq : fnd (fun j => bad A (msk B A.ow) k (k + 1 + j)) (A.n - (k + 1))
      · rfl
      · rw [hq] at hp; cases hp
    · simp only [Land_firstOffence_s1, h.hn, if_pos (nI_lt hk (by omega)), li_1, nI_add, Option.bind_some, inner k hk]
      cases hq : fnd (fun j => bad A (msk B A.ow) k (k + 1 + j)) (A.n - (k + 1))
      · rw [hq] at hp; cases hp
      · rfl
    · simp only [Land_firstOffence_s1, h.hn, if_neg (nI_nlt (Nat.le_refl A.n) (show A.n < 2 ^ 31 by omega))]
  rw [outer]
  unfold fo
  rcases fnd (fun a => (fnd (fun j => bad A (msk B A.ow) a (a + 1 + j)) (A.n - (a + 1))).isSome) A.n with _ | a
  · rfl
  · rcases hq : fnd (fun j => bad A (msk B A.ow) a (a + 1 + j)) (A.n - (a + 1)) with _ | j
    · simp only [Option.elim_some, hq, Option.elim_none, Option.bind_some, Option.bind_none, if_true, if_false, ite_true, ite_false, Bool.false_eq_true, Bool.true_eq_false, Bool.not_true, Bool.not_false, decide_true, decide_false, decide_eq_true_eq, Sum.elim_inl, Sum.elim_inr, ne_eq, not_true, not_false_iff, reduceIte, reduceCtorEq, Bool.cond_true, Bool.cond_false]
    · simp only [Option.elim_some, hq, Option.bind_some, Option.bind_none, if_true, if_false, ite_true, ite_false, Bool.false_eq_true, Bool.true_eq_false, Bool.not_true, Bool.not_false, decide_true, decide_false, decide_eq_true_eq, Sum.elim_inl, Sum.elim_inr, ne_eq, not_true, not_false_iff, reduceIte, reduceCtorEq, Bool.cond_true, Bool.cond_false]
theorem msk_0 (g : Nat → Nat) : msk 0 g = g := by funext f; unfold msk; simp
theorem fo_v {A : LV} {g : Nat → Nat} (h : A.n ≤ 6) {k : Nat} (e : fo A g = some k) : k < 100 := by
  unfold fo at e
  rcases fnd_cases (fun a => (fnd (fun j => bad A g a (a + 1 + j)) (A.n - (a + 1))).isSome) A.n with ⟨a, ha, _, _, e1⟩ | ⟨_, e1⟩
  · rw [e1] at e
    rcases fnd_cases (fun j => bad A g a (a + 1 + j)) (A.n - (a + 1)) with ⟨j, hj, _, _, e2⟩ | ⟨_, e2⟩
    · simp only [Option.elim_some, e2] at e
      cases e; omega
    · simp only [Option.elim_some, e2, Option.elim_none] at e; cases e
  · rw [e1] at e; cases e
theorem c_lawfulB {t A μ} (h : CR t A μ) (w : WF A) {B : Nat} (hB : B < 2 ^ 31) : ∃ r, Land_firstOffence t (nI B) μ = some r ∧ decide (r = -4) = lw A (msk B A.ow) := by
  refine ⟨_, c_firstOffence h w hB, ?_⟩
  rw [← fo_lw w]
  rcases hq : fo A (msk B A.ow) with _ | k
  · rfl
  · have := fo_v w.n6 hq
    show decide (nI k = -4) = false
    rw [li_4]
    exact decide_eq_false (by rw [ne_neg (by omega) (by omega) (by omega)]; exact id)
theorem c_isLawful {t A μ} (h : CR t A μ) (w : WF A) : Land_isLawful t μ = some (lw A A.ow) := by
  obtain ⟨r, h1, h2⟩ := c_lawfulB h w (B := 0) (by decide)
  rw [msk_0] at h2
  unfold Land_isLawful
  rw [li_0, h1]
  simp only [Option.bind_some, Option.bind_none, if_true, if_false, ite_true, ite_false, Bool.false_eq_true, Bool.true_eq_false, Bool.not_true, Bool.not_false, decide_true, decide_false, decide_eq_true_eq, Sum.elim_inl, Sum.elim_inr, ne_eq, not_true, not_false_iff, reduceIte, reduceCtorEq, Bool.cond_true, Bool.cond_false, h2]
theorem c_fieldBits {t A μ} (h : CR t A μ) (w : WF A) {o : Nat} (ho : o ≤ 3) : Land_fieldBits t (nI (cl o)) μ = some (nI (bs (fun f => decide (A.ow f = o)) A.n)) := by
  have hn := w.n6
  have hp := w.p3
  unfold Land_fieldBits
  have key : lp (Land_fieldBits_s1 μ t (nI (cl o))) FUEL (0, 0) = some (nI (bs (fun f => decide (A.ow f = o)) A.n)) := by
    refine lp_seq (fun k => (nI (bs (fun f => decide (A.ow f = o)) k), nI k)) A.n (by omega) (fun i hi => ?_) ?_
    · have o1 := w.owl hi
      have e : (nI (cl (A.ow i)) = nI (cl o)) = (A.ow i = o) := by
        rw [nI_eq (by have := cl_lt (p := 3) (show A.ow i ≤ 3 by omega) (by omega); omega) (by have := cl_lt (p := 3) ho (by omega); omega), cl_inj (p := 3) (by omega) ho (by omega)]
      simp only [Land_fieldBits_s1, h.hn, if_pos (nI_lt hi (by omega)), c_ownerOf h w hi, bs, Option.bind_some, Option.bind_none, if_true, if_false, ite_true, ite_false, Bool.false_eq_true, Bool.true_eq_false, Bool.not_true, Bool.not_false, decide_true, decide_false, decide_eq_true_eq, Sum.elim_inl, Sum.elim_inr, ne_eq, not_true, not_false_iff, reduceIte, reduceCtorEq, Bool.cond_true, Bool.cond_false, e]
      by_cases g : A.ow i = o
      · simp only [if_pos g, decide_eq_true g, Option.bind_some, Option.bind_none, if_true, if_false, ite_true, ite_false, Bool.false_eq_true, Bool.true_eq_false, Bool.not_true, Bool.not_false, decide_true, decide_false, decide_eq_true_eq, Sum.elim_inl, Sum.elim_inr, ne_eq, not_true, not_false_iff, reduceIte, reduceCtorEq, Bool.cond_true, Bool.cond_false, li_1, sh1 (show i < 29 by omega), fa_or, nI_add]
      · simp only [if_neg g, decide_eq_false g, Option.bind_some, Option.bind_none, if_true, if_false, ite_true, ite_false, Bool.false_eq_true, Bool.true_eq_false, Bool.not_true, Bool.not_false, decide_true, decide_false, decide_eq_true_eq, Sum.elim_inl, Sum.elim_inr, ne_eq, not_true, not_false_iff, reduceIte, reduceCtorEq, Bool.cond_true, Bool.cond_false, li_0, li_1, fa_or, nI_add]
    · simp only [Land_fieldBits_s1, h.hn, if_neg (nI_nlt (Nat.le_refl _) (show A.n < 2 ^ 31 by omega))]
  rw [key]; rfl
/-- worth of a set to one -/
def wob (A : LV) (q B : Nat) : Nat := sm (fun f => if B.testBit f = true then A.wo q f else 0) A.n
def wto (A : LV) (g : Nat → Nat) (B : Nat) : Nat := sm (fun f => if B.testBit f = true then A.wt (g f) f else 0) A.n
theorem c_worthOfBits {t A μ} (h : CR t A μ) (w : WF A) {q B : Nat} (hq : q < A.p) (hB : B < 2 ^ 31) : Land_worthOfBits t (nI q) (nI B) μ = some (nI (wob A q B)) := by
  have hn := w.n6
  unfold Land_worthOfBits wob
  have key : lp (Land_worthOfBits_s1 μ t (nI B) (nI q)) FUEL (0, 0) = some (nI (sm (fun f => if B.testBit f = true then A.wo q f else 0) A.n)) := by
    refine lp_seq (fun k => (nI (sm (fun f => if B.testBit f = true then A.wo q f else 0) k), nI k)) A.n (by omega) (fun i hi => ?_) ?_
    · simp only [Land_worthOfBits_s1, h.hn, if_pos (nI_lt hi (by omega)), c_worthTo' h w hq hi, sm, Option.bind_some, Option.bind_none, if_true, if_false, ite_true, ite_false, Bool.false_eq_true, Bool.true_eq_false, Bool.not_true, Bool.not_false, decide_true, decide_false, decide_eq_true_eq, Sum.elim_inl, Sum.elim_inr, ne_eq, not_true, not_false_iff, reduceIte, reduceCtorEq, Bool.cond_true, Bool.cond_false, li_1, tbv hB (show i < 31 by omega)]
      cases B.testBit i <;> simp only [Option.bind_some, Option.bind_none, if_true, if_false, ite_true, ite_false, Bool.false_eq_true, Bool.true_eq_false, Bool.not_true, Bool.not_false, decide_true, decide_false, decide_eq_true_eq, Sum.elim_inl, Sum.elim_inr, ne_eq, not_true, not_false_iff, reduceIte, reduceCtorEq, Bool.cond_true, Bool.cond_false, li_0, nI_add]
    · simp only [Land_worthOfBits_s1, h.hn, if_neg (nI_nlt (Nat.le_refl _) (show A.n < 2 ^ 31 by omega))]
  rw [key]; rfl
theorem c_worthToOwners {t A μ} (h : CR t A μ) (w : WF A) {B : Nat} (hB : B < 2 ^ 31) : Land_worthToOwners t (nI B) μ = some (nI (wto A A.ow B)) := by
  have hn := w.n6
  unfold Land_worthToOwners wto
  have key : lp (Land_worthToOwners_s1 μ t (nI B)) FUEL (0, 0) = some (nI (sm (fun f => if B.testBit f = true then A.wt (A.ow f) f else 0) A.n)) := by
    refine lp_seq (fun k => (nI (sm (fun f => if B.testBit f = true then A.wt (A.ow f) f else 0) k), nI k)) A.n (by omega) (fun i hi => ?_) ?_
    · simp only [Land_worthToOwners_s1, h.hn, if_pos (nI_lt hi (by omega)), c_ownerOf h w hi, c_worthTo h w (w.owl hi) hi, sm, Option.bind_some, Option.bind_none, if_true, if_false, ite_true, ite_false, Bool.false_eq_true, Bool.true_eq_false, Bool.not_true, Bool.not_false, decide_true, decide_false, decide_eq_true_eq, Sum.elim_inl, Sum.elim_inr, ne_eq, not_true, not_false_iff, reduceIte, reduceCtorEq, Bool.cond_true, Bool.cond_false, li_1, tbv hB (show i < 31 by omega)]
      cases B.testBit i <;> simp only [Option.bind_some, Option.bind_none, if_true, if_false, ite_true, ite_false, Bool.false_eq_true, Bool.true_eq_false, Bool.not_true, Bool.not_false, decide_true, decide_false, decide_eq_true_eq, Sum.elim_inl, Sum.elim_inr, ne_eq, not_true, not_false_iff, reduceIte, reduceCtorEq, Bool.cond_true, Bool.cond_false, li_0, nI_add]
    · simp only [Land_worthToOwners_s1, h.hn, if_neg (nI_nlt (Nat.le_refl _) (show A.n < 2 ^ 31 by omega))]
  rw [key]; rfl
/-- worth of what one owns in the owning g -/
def wow (A : LV) (g : Nat → Nat) (q : Nat) : Nat := sm (fun f => if g f = q + 1 then A.wo q f else 0) A.n
theorem c_worthOwned {t A μ} (h : CR t A μ) (w : WF A) {q : Nat} (hq : q < A.p) : Land_worthOwned t (nI q) μ = some (nI (wow A A.ow q)) := by
  have hn := w.n6
  have hp := w.p3
  unfold Land_worthOwned
  have e := c_fieldBits h w (o := q + 1) (by omega)
  rw [cl_s] at e
  have hb := bs_lt (fun f => decide (A.ow f = q + 1)) A.n
  have hb2 : 2 ^ A.n ≤ 2 ^ 6 := Nat.pow_le_pow_right (by decide) hn
  rw [e]
  simp only [Option.bind_some]
  rw [c_worthOfBits h w hq (by omega)]
  simp only [Option.bind_some]
  congr 2
  unfold wob wow
  exact sm_cg fun k hk => by rw [bs_tb]; simp [hk]
def gw (A : LV) (f : Nat) : Nat → Nat
  | 0 => 0
  | k + 1 => max (gw A f k) (A.wo k f)
theorem gw_le {A : LV} (w : WF A) {f : Nat} (hf : f < A.n) : ∀ {k : Nat}, k ≤ A.p → gw A f k ≤ 99
  | 0, _ => by unfold gw; omega
  | k + 1, hk => by
    unfold gw
    have := gw_le w hf (k := k) (by omega)
    have := w.wol (show k < A.p by omega) hf
    omega
theorem mx_n {a b : Nat} (ha : a < 2 ^ 31) (hb : b < 2 ^ 31) : mx (nI a) (nI b) = nI (max a b) := by
  unfold mx
  by_cases h : a < b
  · rw [if_pos (nI_lt h hb)]; congr 1; omega
  · rw [if_neg (nI_nlt (by omega) ha)]; congr 1; omega
theorem c_greatestWorth {t A μ} (h : CR t A μ) (w : WF A) {f : Nat} (hf : f < 6) : Land_greatestWorth t (nI f) μ = some (nI (if f < A.n then gw A f A.p else 0)) := by
  have hn := w.n6
  have hp := w.p3
  unfold Land_greatestWorth
  have key : lp (Land_greatestWorth_s1 μ t (nI f)) FUEL (0, 0) = some (nI (if f < A.n then gw A f A.p else 0)) := by
    by_cases g : f < A.n
    · rw [if_pos g]
      refine lp_seq (fun k => (nI (gw A f k), nI k)) A.p (by omega) (fun i hi => ?_) ?_
      · have g1 := gw_le w g (k := i) (by omega)
        have g2 := w.wol hi g
        simp only [Land_greatestWorth_s1, h.hp, if_pos (nI_lt hi (show A.p < 2 ^ 31 by omega)), c_worthTo' h w hi g, gw, Option.bind_some, Option.bind_none, if_true, if_false, ite_true, ite_false, Bool.false_eq_true, Bool.true_eq_false, Bool.not_true, Bool.not_false, decide_true, decide_false, decide_eq_true_eq, Sum.elim_inl, Sum.elim_inr, ne_eq, not_true, not_false_iff, reduceIte, reduceCtorEq, Bool.cond_true, Bool.cond_false, mx_n (show gw A f i < 2 ^ 31 by omega) (show A.wo i f < 2 ^ 31 by omega), li_1, nI_add]
      · simp only [Land_greatestWorth_s1, h.hp, if_neg (nI_nlt (Nat.le_refl _) (show A.p < 2 ^ 31 by omega))]
    · rw [if_neg g]
      refine lp_seq (fun k => (nI 0, nI k)) A.p (by omega) (fun i hi => ?_) ?_
      · have : Land_worthTo t (nI i) (nI f) μ = some 0 := by
          unfold Land_worthTo
          rw [c_isPerson h w, c_isField h w, inR_n (f := f) (by omega), inR_n (f := i) (by omega), decide_eq_false g, decide_eq_true hi]
          simp only [Option.bind_some, Option.bind_none, if_true, if_false, ite_true, ite_false, Bool.false_eq_true, Bool.true_eq_false, Bool.not_true, Bool.not_false, decide_true, decide_false, decide_eq_true_eq, Sum.elim_inl, Sum.elim_inr, ne_eq, not_true, not_false_iff, reduceIte, reduceCtorEq, Bool.cond_true, Bool.cond_false]
        simp only [Land_greatestWorth_s1, h.hp, if_pos (nI_lt hi (show A.p < 2 ^ 31 by omega)), this, Option.bind_some, Option.bind_none, if_true, if_false, ite_true, ite_false, Bool.false_eq_true, Bool.true_eq_false, Bool.not_true, Bool.not_false, decide_true, decide_false, decide_eq_true_eq, Sum.elim_inl, Sum.elim_inr, ne_eq, not_true, not_false_iff, reduceIte, reduceCtorEq, Bool.cond_true, Bool.cond_false, li_0, mx_n (show 0 < 2 ^ 31 by omega) (show 0 < 2 ^ 31 by omega), li_1, nI_add]
        rfl
      · simp only [Land_greatestWorth_s1, h.hp, if_neg (nI_nlt (Nat.le_refl _) (show A.p < 2 ^ 31 by omega))]
  rw [key]; rfl
