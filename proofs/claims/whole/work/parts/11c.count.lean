/-! ===== count ===== -/
theorem sm_ofs {f : Nat → Nat} {m : Nat} (h : ∀ k, k < m → f k = 0) : ∀ j, sm f (m + j) = sm (fun i => f (m + i)) j
  | 0 => by
    have : sm f m = sm (fun _ => 0) m := sm_cg h
    rw [Nat.add_zero, this, sm_z]; rfl
  | j + 1 => by
    show sm f (m + j) + f (m + j) = sm (fun i => f (m + i)) j + f (m + j)
    rw [sm_ofs h j]
theorem sm_cut {f : Nat → Nat} {m : Nat} : ∀ {n : Nat}, m ≤ n → (∀ k, m ≤ k → k < n → f k = 0) → sm f n = sm f m
  | 0, h, _ => by
    have : m = 0 := by omega
    rw [this]
  | n + 1, h, q => by
    by_cases e : m = n + 1
    · rw [e]
    · show sm f n + f n = sm f m
      rw [sm_cut (n := n) (by omega) (fun k h1 h2 => q k h1 (by omega)), q n (by omega) (by omega)]; rfl
/-- two by two, from above or from below -/
theorem sm_tri (F : Nat → Nat → Nat) (hs : ∀ a b, F a b = F b a) (n : Nat) : sm (fun a => sm (fun j => F a (a + 1 + j)) (n - (a + 1))) n = sm (fun a => sm (fun b => F a b) a) n := by
  have e1 : sm (fun a => sm (fun j => F a (a + 1 + j)) (n - (a + 1))) n = sm (fun a => sm (fun b => if a < b then F a b else 0) n) n := sm_cg fun a ha => by
    have h1 := sm_ofs (f := fun b => if a < b then F a b else 0) (m := a + 1) (fun k hk => if_neg (by omega)) (n - (a + 1))
    rw [show a + 1 + (n - (a + 1)) = n by omega] at h1
    rw [h1]
    exact sm_cg fun k hk => by rw [if_pos (by omega)]
  have e2 : sm (fun a => sm (fun b => F a b) a) n = sm (fun a => sm (fun b => if b < a then F a b else 0) n) n := sm_cg fun a ha => by
    rw [sm_cut (f := fun b => if b < a then F a b else 0) (m := a) (n := n) (by omega) (fun k h1 h2 => if_neg (by omega))]
    exact sm_cg fun k hk => by rw [if_pos hk]
  rw [e1, e2, sm_sw]
  exact sm_cg fun a ha => sm_cg fun b hb => by
    by_cases g : b < a
    · rw [if_pos g, if_pos g, hs]
    · rw [if_neg g, if_neg g]
def tc (A : LV) (t : Nat) : Nat := sm (fun a => sm (fun b => if A.to a b = t then 1 else 0) a) A.n
theorem c_touchCount {t A μ} (h : CR t A μ) (w : WF A) {v : Nat} (hv : v ≤ 3) : Land_touchCount t (nI v) μ = some (nI (tc A v)) := by
  have hn := w.n6
  unfold Land_touchCount
  have inner : ∀ a T, a < A.n → lp (Land_touchCount_s2 μ t (nI a) (nI v)) FUEL (nI T, nI (a + 1)) = some (nI (T + sm (fun j => if A.to a (a + 1 + j) = v then 1 else 0) (A.n - (a + 1)))) := by
    intro a T ha
    refine lp_seq (fun k => (nI (T + sm (fun j => if A.to a (a + 1 + j) = v then 1 else 0) k), nI (a + 1 + k))) (A.n - (a + 1)) (by omega) (fun i hi => ?_) ?_
    · have t3 := w.t3 a (a + 1 + i)
      simp only [Land_touchCount_s2, h.hn, if_pos (nI_lt (show a + 1 + i < A.n by omega) (show A.n < 2 ^ 31 by omega)), c_touchOf h w ha (show a + 1 + i < A.n by omega), Option.bind_some, Option.bind_none, if_true, if_false, ite_true, ite_false, Bool.false_eq_true, Bool.true_eq_false, Bool.not_true, Bool.not_false, decide_true, decide_false, decide_eq_true_eq, Sum.elim_inl, Sum.elim_inr, ne_eq, not_true, not_false_iff, reduceIte, reduceCtorEq, Bool.cond_true, Bool.cond_false, nI_eq (show A.to a (a + 1 + i) < 2 ^ 31 by omega) (show v < 2 ^ 31 by omega), li_1, li_0, sm]
      by_cases e : A.to a (a + 1 + i) = v
      · simp only [if_pos e, Option.bind_some, Option.bind_none, if_true, if_false, ite_true, ite_false, Bool.false_eq_true, Bool.true_eq_false, Bool.not_true, Bool.not_false, decide_true, decide_false, decide_eq_true_eq, Sum.elim_inl, Sum.elim_inr, ne_eq, not_true, not_false_iff, reduceIte, reduceCtorEq, Bool.cond_true, Bool.cond_false, nI_add] <;> rfl
      · simp only [if_neg e, Option.bind_some, Option.bind_none, if_true, if_false, ite_true, ite_false, Bool.false_eq_true, Bool.true_eq_false, Bool.not_true, Bool.not_false, decide_true, decide_false, decide_eq_true_eq, Sum.elim_inl, Sum.elim_inr, ne_eq, not_true, not_false_iff, reduceIte, reduceCtorEq, Bool.cond_true, Bool.cond_false, nI_add] <;> rfl
    · simp only [Land_touchCount_s2, h.hn, if_neg (nI_nlt (show A.n ≤ a + 1 + (A.n - (a + 1)) by omega) (show a + 1 + (A.n - (a + 1)) < 2 ^ 31 by omega))]
  have outer : lp (Land_touchCount_s1 μ t (nI v)) FUEL (0, 0) = some (nI (sm (fun a => sm (fun j => if A.to a (a + 1 + j) = v then 1 else 0) (A.n - (a + 1))) A.n)) := by
    refine lp_seq (fun k => (nI (sm (fun a => sm (fun j => if A.to a (a + 1 + j) = v then 1 else 0) (A.n - (a + 1))) k), nI k)) A.n (by omega) (fun i hi => ?_) ?_
    · simp only [Land_touchCount_s1, h.hn, if_pos (nI_lt hi (show A.n < 2 ^ 31 by omega)), li_1, nI_add, Option.bind_some, inner i _ hi, sm]
    · simp only [Land_touchCount_s1, h.hn, if_neg (nI_nlt (Nat.le_refl A.n) (show A.n < 2 ^ 31 by omega))]
  rw [outer, sm_tri (fun a b => if A.to a b = v then 1 else 0) (fun a b => by rw [w.sy a b])]
  rfl
theorem m_touches {A μ} (h : MR A μ) (w : WF A) {v : Nat} (hv : v ≤ 3) : M_touches (nI v) μ = some (nI (tc A v)) := by
  have hn := w.n6
  unfold M_touches
  have inner : ∀ a T, a < A.n → lp (M_touches_s2 (nI a) μ (nI v)) FUEL (nI T, nI 0) = some (nI (T + sm (fun b => if A.to a b = v then 1 else 0) a)) := by
    intro a T ha
    refine lp_seq (fun k => (nI (T + sm (fun b => if A.to a b = v then 1 else 0) k), nI k)) a (by omega) (fun i hi => ?_) ?_
    · have t3 := w.t3 a i
      simp only [M_touches_s2, if_pos (nI_lt hi (show a < 2 ^ 31 by omega)), li_6, pk_mul, nI_add, ldA_n (show 6 * a + i < 36 by omega) (show 36 ≤ 5000 by omega), h.hto ha (show i < A.n by omega), Option.bind_some, Option.bind_none, if_true, if_false, ite_true, ite_false, Bool.false_eq_true, Bool.true_eq_false, Bool.not_true, Bool.not_false, decide_true, decide_false, decide_eq_true_eq, Sum.elim_inl, Sum.elim_inr, ne_eq, not_true, not_false_iff, reduceIte, reduceCtorEq, Bool.cond_true, Bool.cond_false, nI_eq (show A.to a i < 2 ^ 31 by omega) (show v < 2 ^ 31 by omega), li_1, li_0, sm]
      by_cases e : A.to a i = v
      · simp only [if_pos e, Option.bind_some, Option.bind_none, if_true, if_false, ite_true, ite_false, Bool.false_eq_true, Bool.true_eq_false, Bool.not_true, Bool.not_false, decide_true, decide_false, decide_eq_true_eq, Sum.elim_inl, Sum.elim_inr, ne_eq, not_true, not_false_iff, reduceIte, reduceCtorEq, Bool.cond_true, Bool.cond_false, nI_add] <;> rfl
      · simp only [if_neg e, Option.bind_some, Option.bind_none, if_true, if_false, ite_true, ite_false, Bool.false_eq_true, Bool.true_eq_false, Bool.not_true, Bool.not_false, decide_true, decide_false, decide_eq_true_eq, Sum.elim_inl, Sum.elim_inr, ne_eq, not_true, not_false_iff, reduceIte, reduceCtorEq, Bool.cond_true, Bool.cond_false, nI_add] <;> rfl
    · simp only [M_touches_s2, if_neg (nI_nlt (Nat.le_refl a) (show a < 2 ^ 31 by omega))]
  have outer : lp (M_touches_s1 μ (nI v)) FUEL (0, 0) = some (nI (tc A v)) := by
    refine lp_seq (fun k => (nI (sm (fun a => sm (fun b => if A.to a b = v then 1 else 0) a) k), nI k)) A.n (by omega) (fun i hi => ?_) ?_
    · simp only [M_touches_s1, h.hn, if_pos (nI_lt hi (show A.n < 2 ^ 31 by omega)), li_1, li_0, nI_add, Option.bind_some, inner i _ hi, sm]
    · simp only [M_touches_s1, h.hn, if_neg (nI_nlt (Nat.le_refl A.n) (show A.n < 2 ^ 31 by omega))]
      rfl
  rw [outer]; rfl
def sac (A : LV) : Nat := sm A.ac A.n
def sow (A : LV) (g : Nat → Nat) : Nat := sm (fun f => if g f = 0 then 0 else 1) A.n
def sco (A : LV) : Nat → Int
  | 0 => 0
  | k + 1 => sco A k + A.co k
theorem c_allAcres {t A μ} (h : CR t A μ) (w : WF A) : Land_allAcres t μ = some (nI (sac A)) := by
  have hn := w.n6
  unfold Land_allAcres
  have key : lp (Land_allAcres_s1 μ t) FUEL (0, 0) = some (nI (sac A)) := by
    refine lp_seq (fun k => (nI (sm A.ac k), nI k)) A.n (by omega) (fun i hi => ?_) ?_
    · simp only [Land_allAcres_s1, h.hn, if_pos (nI_lt hi (show A.n < 2 ^ 31 by omega)), c_acresOf h w hi, Option.bind_some, Option.bind_none, if_true, if_false, ite_true, ite_false, Bool.false_eq_true, Bool.true_eq_false, Bool.not_true, Bool.not_false, decide_true, decide_false, decide_eq_true_eq, Sum.elim_inl, Sum.elim_inr, ne_eq, not_true, not_false_iff, reduceIte, reduceCtorEq, Bool.cond_true, Bool.cond_false, li_1, nI_add, sm]
    · simp only [Land_allAcres_s1, h.hn, if_neg (nI_nlt (Nat.le_refl _) (show A.n < 2 ^ 31 by omega))]; rfl
  rw [key]; rfl
theorem c_ownedCount {t A μ} (h : CR t A μ) (w : WF A) : Land_ownedCount t μ = some (nI (sow A A.ow)) := by
  have hn := w.n6
  have hp := w.p3
  unfold Land_ownedCount
  have key : lp (Land_ownedCount_s1 μ t) FUEL (0, 0) = some (nI (sow A A.ow)) := by
    refine lp_seq (fun k => (nI (sm (fun f => if A.ow f = 0 then 0 else 1) k), nI k)) A.n (by omega) (fun i hi => ?_) ?_
    · have o1 := w.owl hi
      have o2 := cl_lt o1 hp
      have e9 : (nI (cl (A.ow i)) = nI 9) = (A.ow i = 0) := by rw [nI_eq (by omega) (by omega), cl_9 o1 hp]
      simp only [Land_ownedCount_s1, h.hn, if_pos (nI_lt hi (show A.n < 2 ^ 31 by omega)), c_ownerOf h w hi, Option.bind_some, Option.bind_none, if_true, if_false, ite_true, ite_false, Bool.false_eq_true, Bool.true_eq_false, Bool.not_true, Bool.not_false, decide_true, decide_false, decide_eq_true_eq, Sum.elim_inl, Sum.elim_inr, ne_eq, not_true, not_false_iff, reduceIte, reduceCtorEq, Bool.cond_true, Bool.cond_false, li_0, li_1, li_9, e9, nI_add, sm]
      by_cases e : A.ow i = 0
      · simp only [if_pos e, Option.bind_some, Option.bind_none, if_true, if_false, ite_true, ite_false, Bool.false_eq_true, Bool.true_eq_false, Bool.not_true, Bool.not_false, decide_true, decide_false, decide_eq_true_eq, Sum.elim_inl, Sum.elim_inr, ne_eq, not_true, not_false_iff, reduceIte, reduceCtorEq, Bool.cond_true, Bool.cond_false, nI_add]
      · simp only [if_neg e, Option.bind_some, Option.bind_none, if_true, if_false, ite_true, ite_false, Bool.false_eq_true, Bool.true_eq_false, Bool.not_true, Bool.not_false, decide_true, decide_false, decide_eq_true_eq, Sum.elim_inl, Sum.elim_inr, ne_eq, not_true, not_false_iff, reduceIte, reduceCtorEq, Bool.cond_true, Bool.cond_false, nI_add]
    · simp only [Land_ownedCount_s1, h.hn, if_neg (nI_nlt (Nat.le_refl _) (show A.n < 2 ^ 31 by omega))]; rfl
  rw [key]; rfl
theorem c_allCoins {t A μ} (h : CR t A μ) (w : WF A) : Land_allCoins t μ = some (iI (sco A A.p)) := by
  have hp := w.p3
  unfold Land_allCoins
  have key : lp (Land_allCoins_s1 μ t) FUEL (0, 0) = some (iI (sco A A.p)) := by
    refine lp_seq (fun k => (iI (sco A k), nI k)) A.p (by omega) (fun i hi => ?_) ?_
    · simp only [Land_allCoins_s1, h.hp, if_pos (nI_lt hi (show A.p < 2 ^ 31 by omega)), c_coinsOf h w hi, Option.bind_some, Option.bind_none, if_true, if_false, ite_true, ite_false, Bool.false_eq_true, Bool.true_eq_false, Bool.not_true, Bool.not_false, decide_true, decide_false, decide_eq_true_eq, Sum.elim_inl, Sum.elim_inr, ne_eq, not_true, not_false_iff, reduceIte, reduceCtorEq, Bool.cond_true, Bool.cond_false, li_1, nI_add, iI_add, sco]
    · simp only [Land_allCoins_s1, h.hp, if_neg (nI_nlt (Nat.le_refl _) (show A.p < 2 ^ 31 by omega))]
  rw [key]; rfl
def sCount (A : LV) (x : Int32) : Int32 := if x = nI 0 then nI A.n else if x = nI 1 then nI A.p else if x = nI 2 then nI (sac A) else if x = nI 3 then nI (sow A A.ow) else if x = nI 4 then nI (tc A 1 + tc A 2) else if x = nI 5 then nI (tc A 2) else if x = nI 6 then nI (tc A 3) else if x = nI 7 then iI (sco A A.p) else -1
theorem N_count_v {A μ} (h : CR 1 A μ) (w : WF A) (x : Int32) : N_count x μ = some (sCount A x) := by
  unfold N_count sCount
  have t1 := c_touchCount h w (v := 1) (by omega)
  have t2 := c_touchCount h w (v := 2) (by omega)
  have t3 := c_touchCount h w (v := 3) (by omega)
  simp only [li_0, li_1, li_2, li_3, li_4, li_5, li_6, li_7, c_allAcres h w, c_ownedCount h w, c_allCoins h w, t1, t2, t3, h.hn, h.hp, Option.bind_some, Option.bind_none, if_true, if_false, ite_true, ite_false, Bool.false_eq_true, Bool.true_eq_false, Bool.not_true, Bool.not_false, decide_true, decide_false, decide_eq_true_eq, Sum.elim_inl, Sum.elim_inr, ne_eq, not_true, not_false_iff, reduceIte, reduceCtorEq, Bool.cond_true, Bool.cond_false, nI_add]
  by_cases e0 : x = nI 0
  · simp only [if_pos e0]
  by_cases e1 : x = nI 1
  · simp only [if_neg e0, if_pos e1]
  by_cases e2 : x = nI 2
  · simp only [if_neg e0, if_neg e1, if_pos e2]
  by_cases e3 : x = nI 3
  · simp only [if_neg e0, if_neg e1, if_neg e2, if_pos e3]
  by_cases e4 : x = nI 4
  · simp only [if_neg e0, if_neg e1, if_neg e2, if_neg e3, if_pos e4]
  by_cases e5 : x = nI 5
  · simp only [if_neg e0, if_neg e1, if_neg e2, if_neg e3, if_neg e4, if_pos e5]
  by_cases e6 : x = nI 6
  · simp only [if_neg e0, if_neg e1, if_neg e2, if_neg e3, if_neg e4, if_neg e5, if_pos e6]
  by_cases e7 : x = nI 7
  · simp only [if_neg e0, if_neg e1, if_neg e2, if_neg e3, if_neg e4, if_neg e5, if_neg e6, if_pos e7]
  · simp only [if_neg e0, if_neg e1, if_neg e2, if_neg e3, if_neg e4, if_neg e5, if_neg e6, if_neg e7]
theorem m_sum1 {A μ} (h : MR A μ) (w : WF A) (x : Int32) (v : Nat → Nat) (hv : ∀ f, f < A.n → (if x = 2 then (ldA 6 μ 63 (nI f)).bind fun x16 => some x16 else (((if x = 3 then ((ldA 6 μ 68 (nI f)).bind fun x32 => some (decide (0 < x32))) else (some false)).bind fun c24 => if c24 = true then some 1 else some 0) : Option Int32).bind fun x20 => some x20 : Option Int32) = some (nI (v f))) : lp (M_sumOf_s1 μ x) FUEL (0, 0) = some (nI (sm v A.n)) := by
  have hn := w.n6
  refine lp_seq (fun k => (nI (sm v k), nI k)) A.n (by omega) (fun i hi => ?_) ?_
  · have q := hv i hi
    simp only [M_sumOf_s1, h.hn, if_pos (nI_lt hi (show A.n < 2 ^ 31 by omega))]
    rw [q]
    simp only [Option.bind_some, Option.bind_none, if_true, if_false, ite_true, ite_false, Bool.false_eq_true, Bool.true_eq_false, Bool.not_true, Bool.not_false, decide_true, decide_false, decide_eq_true_eq, Sum.elim_inl, Sum.elim_inr, ne_eq, not_true, not_false_iff, reduceIte, reduceCtorEq, Bool.cond_true, Bool.cond_false, li_1, nI_add, sm]
  · simp only [M_sumOf_s1, h.hn, if_neg (nI_nlt (Nat.le_refl _) (show A.n < 2 ^ 31 by omega))]
theorem m_sum2 {A μ} (h : MR A μ) (w : WF A) {x : Int32} (hx : x ≠ 7) (s : Int32) : lp (M_sumOf_s2 μ x) FUEL (s, 0) = some s := by
  have hp := w.p3
  refine lp_seq (fun k => (s, nI k)) A.p (by omega) (fun i hi => ?_) ?_
  · simp only [M_sumOf_s2, h.hp, if_pos (nI_lt hi (show A.p < 2 ^ 31 by omega)), if_neg hx, Option.bind_some, Option.bind_none, if_true, if_false, ite_true, ite_false, Bool.false_eq_true, Bool.true_eq_false, Bool.not_true, Bool.not_false, decide_true, decide_false, decide_eq_true_eq, Sum.elim_inl, Sum.elim_inr, ne_eq, not_true, not_false_iff, reduceIte, reduceCtorEq, Bool.cond_true, Bool.cond_false, li_1, nI_add]
    rw [show s + 0 = s from Int32.add_zero s]
  · simp only [M_sumOf_s2, h.hp, if_neg (nI_nlt (Nat.le_refl _) (show A.p < 2 ^ 31 by omega))]
theorem m_sum7 {A μ} (h : MR A μ) (w : WF A) : lp (M_sumOf_s2 μ 7) FUEL (0, 0) = some (iI (sco A A.p)) := by
  have hp := w.p3
  refine lp_seq (fun k => (iI (sco A k), nI k)) A.p (by omega) (fun i hi => ?_) ?_
  · simp only [M_sumOf_s2, h.hp, if_pos (nI_lt hi (show A.p < 2 ^ 31 by omega)), ldA_n (show i < 3 by omega) (show 3 ≤ 5000 by omega), h.hco hi, Option.bind_some, Option.bind_none, if_true, if_false, ite_true, ite_false, Bool.false_eq_true, Bool.true_eq_false, Bool.not_true, Bool.not_false, decide_true, decide_false, decide_eq_true_eq, Sum.elim_inl, Sum.elim_inr, ne_eq, not_true, not_false_iff, reduceIte, reduceCtorEq, Bool.cond_true, Bool.cond_false, li_1, nI_add, iI_add, sco]
  · simp only [M_sumOf_s2, h.hp, if_neg (nI_nlt (Nat.le_refl _) (show A.p < 2 ^ 31 by omega))]
theorem m_sumOf2 {A μ} (h : MR A μ) (w : WF A) : M_sumOf (nI 2) μ = some (nI (sac A)) := by
  have hn := w.n6
  unfold M_sumOf
  rw [m_sum1 h w (nI 2) A.ac (fun f hf => by rw [if_pos (show (nI 2 : Int32) = 2 from rfl), ldA_n (show f < 6 by omega) (by omega), h.hac hf]; rfl)]
  simp only [Option.bind_some]
  rw [m_sum2 h w (by decide)]; rfl
theorem m_sumOf3 {A μ} (h : MR A μ) (w : WF A) : M_sumOf (nI 3) μ = some (nI (sow A A.ow)) := by
  have hn := w.n6
  have hp := w.p3
  unfold M_sumOf
  rw [m_sum1 h w (nI 3) (fun f => if A.ow f = 0 then 0 else 1) (fun f hf => by
    have o1 := w.owl hf
    rw [if_neg (by decide), if_pos (show (nI 3 : Int32) = 3 from rfl), ldA_n (show f < 6 by omega) (by omega), h.how hf]
    simp only [Option.bind_some, Option.bind_none, if_true, if_false, ite_true, ite_false, Bool.false_eq_true, Bool.true_eq_false, Bool.not_true, Bool.not_false, decide_true, decide_false, decide_eq_true_eq, Sum.elim_inl, Sum.elim_inr, ne_eq, not_true, not_false_iff, reduceIte, reduceCtorEq, Bool.cond_true, Bool.cond_false, li_0, nI_ltI (show 0 < 2 ^ 31 by omega) (show A.ow f < 2 ^ 31 by omega)]
    by_cases e : A.ow f = 0
    · simp [e]
    · simp [e, show 0 < A.ow f by omega]; rfl)]
  simp only [Option.bind_some]
  rw [m_sum2 h w (by decide)]; rfl
theorem m_sumOf7 {A μ} (h : MR A μ) (w : WF A) : M_sumOf (nI 7) μ = some (iI (sco A A.p)) := by
  unfold M_sumOf
  rw [m_sum1 h w (nI 7) (fun _ => 0) (fun f hf => by rw [if_neg (by decide), if_neg (by decide)]; rfl), sm_z]
  simp only [Option.bind_some]
  have := m_sum7 h w
  rw [show (nI 0 : Int32) = 0 from rfl, show (nI 7 : Int32) = 7 from rfl, this]; rfl
theorem M_count_v {A μ} (h : MR A μ) (w : WF A) (x : Int32) : ∃ μ2, M_count x μ = some (sCount A x, μ2) ∧ ag pM μ μ2 := by
  refine ⟨si μ 62 10 (nI 0), ?_, ag_62 (by omega)⟩
  have h' : MR A (si μ 62 10 (nI 0)) := h.agM (ag_62 (by omega))
  have t1 := m_touches h' w (v := 1) (by omega)
  have t2 := m_touches h' w (v := 2) (by omega)
  have t3 := m_touches h' w (v := 3) (by omega)
  unfold M_count sCount
  rw [thr0]
  simp only [Option.bind_some, h'.hn, h'.hp]
  simp only [li_0, li_1, li_2, li_3, li_4, li_5, li_6, li_7] at t1 t2 t3 h' ⊢
  simp only [t1, t2, t3, Option.bind_some, Option.bind_none, if_true, if_false, ite_true, ite_false, Bool.false_eq_true, Bool.true_eq_false, Bool.not_true, Bool.not_false, decide_true, decide_false, decide_eq_true_eq, Sum.elim_inl, Sum.elim_inr, ne_eq, not_true, not_false_iff, reduceIte, reduceCtorEq, Bool.cond_true, Bool.cond_false, nI_add]
  by_cases e0 : x = nI 0
  · simp only [if_pos e0]
  by_cases e1 : x = nI 1
  · simp only [if_neg e0, if_pos e1]
  by_cases e2 : x = nI 2
  · simp only [if_neg e0, if_neg e1, if_pos e2]; rw [e2, m_sumOf2 h' w]; rfl
  by_cases e3 : x = nI 3
  · simp only [if_neg e0, if_neg e1, if_neg e2, if_pos e3]; rw [e3, m_sumOf3 h' w]; rfl
  by_cases e4 : x = nI 4
  · simp only [if_neg e0, if_neg e1, if_neg e2, if_neg e3, if_pos e4]
  by_cases e5 : x = nI 5
  · simp only [if_neg e0, if_neg e1, if_neg e2, if_neg e3, if_neg e4, if_pos e5]
  by_cases e6 : x = nI 6
  · simp only [if_neg e0, if_neg e1, if_neg e2, if_neg e3, if_neg e4, if_neg e5, if_pos e6]
  by_cases e7 : x = nI 7
  · simp only [if_neg e0, if_neg e1, if_neg e2, if_neg e3, if_neg e4, if_neg e5, if_neg e6, if_pos e7]; rw [e7, m_sumOf7 h' w]; rfl
  · simp only [if_neg e0, if_neg e1, if_neg e2, if_neg e3, if_neg e4, if_neg e5, if_neg e6, if_neg e7]
