/-! ===== most ===== -/
/-- sets that one may have -/
def mOk1 (A : LV) (q B a : Nat) : Bool := !(B.testBit a) || ((decide (A.ow a = 0) || decide (A.ow a = q + 1)) && al (fun b => !(B.testBit b) || !(A.br a b)) a)
def mOk (A : LV) (q B : Nat) : Bool := al (mOk1 A q B) A.n
/-- the first of the greatest above 0 -/
def mo (ok : Nat → Bool) (v : Nat → Nat) : Nat → Nat × Nat
  | 0 => (0, 0)
  | k + 1 => if (ok k && decide ((mo ok v k).2 < v k)) = true then (k, v k) else mo ok v k
theorem mo_v {ok : Nat → Bool} {v : Nat → Nat} (h0 : v 0 = 0) : ∀ k, (mo ok v k).2 = v (mo ok v k).1 ∧ (mo ok v k).1 ≤ k
  | 0 => ⟨h0.symm, Nat.le_refl _⟩
  | k + 1 => by
    have := mo_v (ok := ok) h0 k
    unfold mo
    split
    · exact ⟨rfl, by omega⟩
    · exact ⟨this.1, by omega⟩
theorem wob_0 (A : LV) (q : Nat) : wob A q 0 = 0 := by
  unfold wob
  have : sm (fun f => if (0 : Nat).testBit f = true then A.wo q f else 0) A.n = sm (fun _ => 0) A.n := sm_cg fun k _ => by simp
  rw [this, sm_z]
theorem wob_le {A : LV} (w : WF A) {q : Nat} (hq : q < A.p) (s : Nat) : wob A q s ≤ 600 := by
  have hn := w.n6
  unfold wob
  have := sm_le (f := fun f => if s.testBit f = true then A.wo q f else 0) (c := 99) (n := A.n) (fun k hk => by
    show (if s.testBit k = true then A.wo q k else 0) ≤ 99
    split
    · exact w.wol hq hk
    · omega)
  have h2 : A.n * 99 ≤ 6 * 99 := Nat.mul_le_mul_right _ hn
  omega
theorem al_down {P : Nat → Bool} {k n : Nat} (h : al P k = false) (hk : k ≤ n) : al P n = false := by
  cases hq : al P n
  · rfl
  · rw [al_iff] at hq
    have : al P k = true := al_iff.mpr fun i hi => hq i (by omega)
    rw [this] at h; cases h
theorem mOk_iff {A : LV} (w : WF A) {q B : Nat} : mOk A q B = true ↔ (∀ a, a < A.n → B.testBit a = true → A.ow a = 0 ∨ A.ow a = q + 1) ∧ (∀ a b, a < A.n → b < A.n → B.testBit a = true → B.testBit b = true → A.br a b = false) := by
  unfold mOk
  rw [al_iff]
  have one : ∀ a, mOk1 A q B a = true ↔ (B.testBit a = true → (A.ow a = 0 ∨ A.ow a = q + 1) ∧ ∀ b, b < a → B.testBit b = true → A.br a b = false) := by
    intro a
    unfold mOk1
    cases B.testBit a
    · simp
    · simp only [Bool.not_true, Bool.false_or, Bool.and_eq_true, Bool.or_eq_true, decide_eq_true_eq, al_iff, forall_const, true_implies, Bool.not_eq_true']
      constructor
      · rintro ⟨h1, h2⟩
        refine ⟨h1, fun b hb ht => ?_⟩
        rcases h2 b hb with h3 | h3
        · rw [ht] at h3; cases h3
        · exact h3
      · rintro ⟨h1, h2⟩
        refine ⟨h1, fun b hb => ?_⟩
        cases ht : B.testBit b
        · exact Or.inl rfl
        · exact Or.inr (h2 b hb ht)
  constructor
  · intro h
    refine ⟨fun a ha ht => ((one a).mp (h a ha) ht).1, fun a b ha hb ta tb => ?_⟩
    rcases Nat.lt_trichotomy a b with e | e | e
    · rw [br_sy w]; exact ((one b).mp (h b hb) tb).2 a e ta
    · subst e; exact br_di w a
    · exact ((one a).mp (h a ha) ta).2 b e tb
  · rintro ⟨h1, h2⟩ a ha
    rw [one]
    exact fun ta => ⟨h1 a ha ta, fun b hb tb => h2 a b ha (by omega) ta tb⟩
theorem and0 {x y : Nat} (hx : x < 2 ^ 31) (hy : y < 2 ^ 31) : (nI x &&& nI y = nI 0) ↔ ∀ i, i < 31 → ¬ (x.testBit i = true ∧ y.testBit i = true) := by
  have h1 : x &&& y ≤ x := Nat.and_le_left
  rw [fa_and, nI_eq (by omega) (by omega)]
  constructor
  · intro h i _ ⟨t1, t2⟩
    have : (x &&& y).testBit i = true := by rw [Nat.testBit_and, t1, t2]; rfl
    rw [h] at this; simp at this
  · intro h
    apply Nat.eq_of_testBit_eq
    intro i
    rw [Nat.testBit_and, Nat.zero_testBit]
    by_cases hi : i < 31
    · have := h i hi
      cases t1 : x.testBit i
      · rfl
      · cases t2 : y.testBit i
        · rfl
        · exact absurd ⟨t1, t2⟩ this
    · have : x < 2 ^ i := Nat.lt_of_lt_of_le hx (Nat.pow_le_pow_right (by decide) (by omega))
      rw [Nat.testBit_lt_two_pow this]; rfl
theorem c_barWithin {t A μ} (h : CR t A μ) (w : WF A) {B : Nat} (hB : B < 64) : ∃ r, Land_barWithin t (nI B) μ = some r ∧ (r = false ↔ ∀ a b, a < A.n → b < A.n → B.testBit a = true → B.testBit b = true → A.br a b = false) := by
  have hn := w.n6
  have t6 := two_le hn
  unfold Land_barWithin
  have hb : ∀ f, bs (fun b => A.br f b) A.n < 64 := fun f => Nat.lt_of_lt_of_le (bs_lt _ _) t6
  have key := lp_find (step := Land_barWithin_s1 μ t (nI B)) (fun k => nI k) (fun f => B.testBit f && !decide (nI (bs (fun b => A.br f b) A.n) &&& nI B = nI 0)) (.inl ()) (fun _ => .inr true) A.n (by omega) (fun k hk hp => by
    simp only [Land_barWithin_s1, h.hn, if_pos (nI_lt hk (show A.n < 2 ^ 31 by omega)), li_1, li_0, tbv (show B < 2 ^ 31 by omega) (show k < 31 by omega), c_barBits h w (show k < 6 by omega), Option.bind_some, nI_add]
    cases ht : B.testBit k
    · simp
    · simp only [if_true, Option.bind_some]
      simp only [ht, Bool.true_and, Bool.not_eq_false', decide_eq_true_eq] at hp
      simp [hp]) (fun k hk hp => by
    simp only [Land_barWithin_s1, h.hn, if_pos (nI_lt hk (show A.n < 2 ^ 31 by omega)), li_1, li_0, tbv (show B < 2 ^ 31 by omega) (show k < 31 by omega), c_barBits h w (show k < 6 by omega), Option.bind_some, nI_add]
    cases ht : B.testBit k
    · simp only [ht, Bool.false_and] at hp; cases hp
    · simp only [ht, Bool.true_and, Bool.not_eq_true', decide_eq_false_iff_not] at hp
      simp [hp]) (by
    simp only [Land_barWithin_s1, h.hn, if_neg (nI_nlt (Nat.le_refl _) (show A.n < 2 ^ 31 by omega))])
  rcases key with ⟨k, hk, hp, _, e⟩ | ⟨hall, e⟩
  · rw [show (0 : Int32) = nI 0 from rfl, e]
    refine ⟨true, rfl, ?_⟩
    constructor
    · intro q; cases q
    · intro q
      exfalso
      rw [Bool.and_eq_true] at hp
      have hp2 := hp.2
      simp only [Bool.not_eq_true', decide_eq_false_iff_not] at hp2
      apply hp2
      rw [and0 (by have := hb k; omega) (by omega)]
      rintro i hi ⟨t1, t2⟩
      rw [bs_tb, Bool.and_eq_true, decide_eq_true_eq] at t1
      rw [q k i hk t1.1 hp.1 t2] at t1
      cases t1.2
  · rw [show (0 : Int32) = nI 0 from rfl, e]
    refine ⟨false, rfl, ⟨fun _ a b ha hb' ta tb => ?_, fun _ => rfl⟩⟩
    have := hall a ha
    rw [ta, Bool.true_and] at this
    simp only [Bool.not_eq_false', decide_eq_true_eq] at this
    rw [and0 (by have := hb a; omega) (by omega)] at this
    cases hq : A.br a b
    · rfl
    · refine absurd ⟨?_, tb⟩ (this b (by omega))
      rw [bs_tb, hq, decide_eq_true hb']; rfl
def sMost (A : LV) (p x : Int32) : Int32 := if inR p A.p = true ∧ inR x 2 = true then (if x = 0 then nI (mo (mOk A p.toNatClampNeg) (wob A p.toNatClampNeg) (2 ^ A.n)).1 else nI (mo (mOk A p.toNatClampNeg) (wob A p.toNatClampNeg) (2 ^ A.n)).2) else -1
theorem c_mostBits {A : LV} {μ : MI} (h : CR 1 A μ) (w : WF A) {q : Nat} (hq : q < A.p) : N_mostBits (nI q) μ = some (nI (mo (mOk A q) (wob A q) (2 ^ A.n)).1) := by
  have hn := w.n6
  have hp := w.p3
  have t6 := two_le hn
  unfold N_mostBits
  have k1 : lp (N_mostBits_s1 μ (nI q)) FUEL (0, 0) = some (nI (bs (fun f => !(decide (A.ow f = 0) || decide (A.ow f = q + 1))) A.n)) := by
    refine lp_seq (fun k => (nI (bs (fun f => !(decide (A.ow f = 0) || decide (A.ow f = q + 1))) k), nI k)) A.n (by omega) (fun i hi => ?_) ?_
    · have o1 := w.owl hi
      have o2 := cl_lt o1 hp
      have e9 : (nI (cl (A.ow i)) = nI 9) = (A.ow i = 0) := by rw [nI_eq (by omega) (by omega), cl_9 o1 hp]
      have eq : (nI (cl (A.ow i)) = nI q) = (A.ow i = q + 1) := by
        have := cl_inj (o := A.ow i) (q := q + 1) (p := A.p) o1 (by omega) hp
        rw [cl_s] at this
        rw [nI_eq (by omega) (by omega), this]
      simp only [N_mostBits_s1, h.hn, if_pos (nI_lt hi (show A.n < 2 ^ 31 by omega)), c_ownerOf h w hi, Option.bind_some, li_9, e9, eq, li_0, li_1, sh1 (show i < 29 by omega), nI_add, bs]
      by_cases g1 : A.ow i = 0
      · simp [g1, fa_or]
      · by_cases g2 : A.ow i = q + 1
        · simp [g2, fa_or]
        · simp [g1, g2, fa_or]
    · simp only [N_mostBits_s1, h.hn, if_neg (nI_nlt (Nat.le_refl _) (show A.n < 2 ^ 31 by omega))]
  generalize hot : bs (fun f => !(decide (A.ow f = 0) || decide (A.ow f = q + 1))) A.n = ot at k1
  have ot1 : ot < 64 := by rw [← hot]; exact Nat.lt_of_lt_of_le (bs_lt _ _) t6
  have ot2 : ∀ i, ot.testBit i = (decide (i < A.n) && !(decide (A.ow i = 0) || decide (A.ow i = q + 1))) := fun i => by rw [← hot, bs_tb]
  have k2 : lp (N_mostBits_s2 μ (nI q) (nI ot)) FUEL (0, 0, 0) = some (nI (mo (mOk A q) (wob A q) (2 ^ A.n)).1, nI (mo (mOk A q) (wob A q) (2 ^ A.n)).2) := by
    refine lp_seq (fun k => (nI (mo (mOk A q) (wob A q) k).1, nI (mo (mOk A q) (wob A q) k).2, nI k)) (2 ^ A.n) (by omega) (fun k hk => ?_) ?_
    · have wv := c_worthOfBits h w hq (B := k) (by omega)
      have v1 := wob_le w hq k
      have v2 := mo_v (ok := mOk A q) (wob_0 A q) k
      have v3 := wob_le w hq (mo (mOk A q) (wob A q) k).1
      obtain ⟨r, b1, b2⟩ := c_barWithin h w (B := k) (by omega)
      have cv : ((if nI (mo (mOk A q) (wob A q) k).2 < nI (wob A q k) then (if nI k &&& nI ot = nI 0 then (some r : Option Bool).bind fun b63 => some (!b63) else some false) else some false) : Option Bool) = some (mOk A q k && decide ((mo (mOk A q) (wob A q) k).2 < wob A q k)) := by
        have e1 : (nI (mo (mOk A q) (wob A q) k).2 < nI (wob A q k)) ↔ ((mo (mOk A q) (wob A q) k).2 < wob A q k) := nI_ltI (by omega) (by omega)
        have e2 : mOk A q k = (decide (nI k &&& nI ot = nI 0) && !r) := by
          rw [Bool.eq_iff_iff, mOk_iff w, Bool.and_eq_true, decide_eq_true_eq, Bool.not_eq_true', b2, and0 (by omega) (by omega)]
          refine and_congr ?_ Iff.rfl
          constructor
          · rintro hh i hi ⟨t1, t2⟩
            rw [ot2, Bool.and_eq_true, decide_eq_true_eq] at t2
            have := hh i t2.1 t1
            revert t2
            rcases this with e | e <;> simp [e]
          · intro hh a ha ta
            have := hh a (by omega)
            rw [ta, ot2, decide_eq_true ha] at this
            revert this
            by_cases g1 : A.ow a = 0 <;> by_cases g2 : A.ow a = q + 1 <;> simp [g1, g2]
        rw [e2]
        by_cases g : (mo (mOk A q) (wob A q) k).2 < wob A q k
        · rw [if_pos (e1.mpr g), decide_eq_true g]
          by_cases g2 : nI k &&& nI ot = nI 0
          · rw [if_pos g2, decide_eq_true g2]; simp
          · rw [if_neg g2, decide_eq_false g2]; rfl
        · rw [if_neg (fun z => g (e1.mp z)), decide_eq_false g, Bool.and_false]
      simp only [N_mostBits_s2, h.hn, li_1, li_0, sh1 (show A.n < 29 by omega), if_pos (nI_lt hk (show 2 ^ A.n < 2 ^ 31 by omega)), wv, b1, Option.bind_some]
      simp only [Option.bind_some] at cv
      rw [cv]
      have em : mo (mOk A q) (wob A q) (k + 1) = if (mOk A q k && decide ((mo (mOk A q) (wob A q) k).2 < wob A q k)) = true then (k, wob A q k) else mo (mOk A q) (wob A q) k := rfl
      rw [em]
      cases (mOk A q k && decide ((mo (mOk A q) (wob A q) k).2 < wob A q k))
      · simp [nI_add]
      · simp [nI_add]
    · simp only [N_mostBits_s2, h.hn, li_1, sh1 (show A.n < 29 by omega), if_neg (nI_nlt (Nat.le_refl (2 ^ A.n)) (show 2 ^ A.n < 2 ^ 31 by omega))]
  rw [k1]
  simp only [Option.bind_some]
  rw [k2]; rfl
theorem N_most_v {A : LV} {μ : MI} (h : CR 1 A μ) (w : WF A) (p x : Int32) : N_most p x μ = some (sMost A p x) := by
  have hn := w.n6
  have hp := w.p3
  have t6 := two_le hn
  unfold N_most sMost
  rw [c_isPerson h w]
  have r1 := rng_c (x := x) (c := 1) (by omega)
  rw [show (nI 0 : Int32) = 0 from rfl, show (nI 1 : Int32) = 1 from rfl] at r1
  rw [r1]
  cases h1 : inR p A.p
  · simp
  cases h2 : inR x 2
  · simp
  obtain ⟨q, hq, rfl⟩ := inR_t h1
  have v2 := mo_v (ok := mOk A q) (wob_0 A q) (2 ^ A.n)
  simp only [Option.bind_some, Option.bind_none, if_true, if_false, ite_true, ite_false, Bool.false_eq_true, Bool.true_eq_false, Bool.not_true, Bool.not_false, decide_true, decide_false, decide_eq_true_eq, Sum.elim_inl, Sum.elim_inr, ne_eq, not_true, not_false_iff, reduceIte, reduceCtorEq, Bool.cond_true, Bool.cond_false, Option.bind_some, c_mostBits h w hq, nI_clamp (show q < 2 ^ 31 by omega), and_self, c_worthOfBits h w hq (B := (mo (mOk A q) (wob A q) (2 ^ A.n)).1) (by omega), ← v2.1]
  by_cases g : x = 0 <;> simp [g]
theorem M_most_v {A : LV} {μ : MI} (h : MR A μ) (w : WF A) (p x : Int32) : ∃ m, M_most p x μ = some (sMost A p x, m) ∧ ag pM μ m := by
  have hn := w.n6
  have hp := w.p3
  have t6 := two_le hn
  have tp : 0 < 2 ^ A.n := Nat.two_pow_pos _
  have g0 : ag pM μ (si μ 62 10 (nI 0)) := ag_62 (by omega)
  have h' : MR A (si μ 62 10 (nI 0)) := h.agM g0
  refine ⟨si μ 62 10 (nI 0), ?_, g0⟩
  unfold M_most sMost
  rw [thr0]
  simp only [Option.bind_some, m_isPerson h' w, M_in1]
  generalize si μ 62 10 (nI 0) = m at h' ⊢
  cases h1 : inR p A.p
  · simp
  cases h2 : inR x 2
  · simp
  obtain ⟨q, hq, rfl⟩ := inR_t h1
  have s3 : ∀ B a c, B < 64 → a < A.n → lp (M_most_s3 (nI a) (nI B) m) FUEL (c, 0) = some (c && al (fun b => !(B.testBit b) || !(A.br a b)) a) := by
    intro B a c hB ha
    have k := lp_seq (step := M_most_s3 (nI a) (nI B) m) (fun k => (c && al (fun b => !(B.testBit b) || !(A.br a b)) k, nI k)) a (by omega) (r := c && al (fun b => !(B.testBit b) || !(A.br a b)) a) (fun i hi => by
      simp only [M_most_s3, if_pos (nI_lt hi (show a < 2 ^ 31 by omega)), li_1, li_0, tbv0 (show B < 2 ^ 31 by omega) (show i < 31 by omega), m_bars h' w ha (show i < A.n by omega), Option.bind_some, nI_add, al]
      cases c <;> cases al (fun b => !(B.testBit b) || !(A.br a b)) i <;> cases B.testBit i <;> simp) (by
      simp only [M_most_s3, if_neg (nI_nlt (Nat.le_refl a) (show a < 2 ^ 31 by omega))])
    rw [show (c && al (fun b => !(B.testBit b) || !(A.br a b)) 0) = c from by simp [al]] at k
    exact k
  have s2 : ∀ B, B < 64 → ∃ o, lp (M_most_s2 m (nI B) (nI q)) FUEL (true, 0, 0) = some o ∧ o.1 = mOk A q B ∧ (o.1 = true → o.2 = nI (wob A q B)) := by
    intro B hB
    refine lp_inv (step := M_most_s2 m (nI B) (nI q)) (s := (true, 0, 0)) (fun k t => t.1 = al (mOk1 A q B) k ∧ t.2.1 = nI (sm (fun f => if B.testBit f = true then A.wo q f else 0) k) ∧ t.2.2 = nI k) (fun o => o.1 = mOk A q B ∧ (o.1 = true → o.2 = nI (wob A q B))) A.n (by omega) ⟨rfl, rfl, rfl⟩ ?_ ?_
    · rintro k ⟨c, u, i⟩ hk ⟨t1, t2, t3⟩
      simp only at t1 t2 t3; subst t3; subst t2; subst t1
      have o1 := w.owl hk
      cases hc : al (mOk1 A q B) k
      · refine Or.inr ⟨(false, nI (sm (fun f => if B.testBit f = true then A.wo q f else 0) k)), ?_, ?_, fun e => by cases e⟩
        · simp only [M_most_s2, h'.hn, if_pos (nI_lt hk (show A.n < 2 ^ 31 by omega)), Option.bind_some, Bool.false_eq_true, if_false]
        · exact (al_down hc (by omega)).symm
      · refine Or.inl ?_
        have ea : al (mOk1 A q B) (k + 1) = mOk1 A q B k := by
          show (al (mOk1 A q B) k && mOk1 A q B k) = _
          rw [hc, Bool.true_and]
        simp only [M_most_s2, h'.hn, if_pos (nI_lt hk (show A.n < 2 ^ 31 by omega)), Option.bind_some, if_true, li_1, li_0, li_6, tbv (show B < 2 ^ 31 by omega) (show k < 31 by omega), pk_mul, nI_add, ldA_n (show 6 * q + k < 18 by omega) (show 18 ≤ 5000 by omega), h'.hwo hq hk, ldA_n (show k < 6 by omega) (show 6 ≤ 5000 by omega), h'.how hk, nI_eq (show A.ow k < 2 ^ 31 by omega) (show 0 < 2 ^ 31 by omega), nI_eq (show A.ow k < 2 ^ 31 by omega) (show q + 1 < 2 ^ 31 by omega)]
        cases hb : B.testBit k
        · simp only [Bool.false_eq_true, if_false, Option.bind_some]
          refine ⟨_, rfl, ?_, ?_, rfl⟩
          · rw [ea]; unfold mOk1; rw [hb]; rfl
          · show _ = nI (sm _ k + (if B.testBit k = true then A.wo q k else 0))
            rw [hb]; rfl
        · have co : (if A.ow k = 0 then some true else some (decide (A.ow k = q + 1))) = some (decide (A.ow k = 0) || decide (A.ow k = q + 1)) := by
            by_cases g : A.ow k = 0 <;> simp [g]
          rw [co]
          have s3' := s3 B k (decide (A.ow k = 0) || decide (A.ow k = q + 1)) hB hk
          rw [show (0 : Int32) = nI 0 from rfl] at s3'
          simp only [if_true, Option.bind_some, s3']
          refine ⟨_, rfl, ?_, ?_, rfl⟩
          · rw [ea]; unfold mOk1; rw [hb]; simp
          · show _ = nI (sm _ k + (if B.testBit k = true then A.wo q k else 0))
            rw [hb, if_pos rfl]
    · rintro ⟨c, u, i⟩ ⟨t1, t2, t3⟩
      simp only at t1 t2 t3; subst t3; subst t2; subst t1
      refine ⟨(al (mOk1 A q B) A.n, nI (sm (fun f => if B.testBit f = true then A.wo q f else 0) A.n)), ?_, rfl, fun _ => rfl⟩
      simp only [M_most_s2, h'.hn, if_neg (nI_nlt (Nat.le_refl A.n) (show A.n < 2 ^ 31 by omega)), Option.bind_some, Bool.false_eq_true, if_false]
  have e1 : mo (mOk A q) (wob A q) 1 = (0, 0) := by
    show (if (mOk A q 0 && decide (0 < wob A q 0)) = true then (0, wob A q 0) else (0, 0)) = (0, 0)
    rw [wob_0, if_neg (by simp)]
  have s1 : lp (M_most_s1 m (nI q)) FUEL (0, 0, 1) = some (nI (mo (mOk A q) (wob A q) (2 ^ A.n)).1, nI (mo (mOk A q) (wob A q) (2 ^ A.n)).2) := by
    have k := lp_seq (step := M_most_s1 m (nI q)) (fun j => (nI (mo (mOk A q) (wob A q) (j + 1)).1, nI (mo (mOk A q) (wob A q) (j + 1)).2, nI (j + 1))) (2 ^ A.n - 1) (by omega) (r := (nI (mo (mOk A q) (wob A q) (2 ^ A.n)).1, nI (mo (mOk A q) (wob A q) (2 ^ A.n)).2)) (fun j hj => by
      obtain ⟨⟨c, u⟩, o1, o2, o3⟩ := s2 (j + 1) (by omega)
      simp only at o2 o3
      have v1 := wob_le w hq (j + 1)
      have v2 := mo_v (ok := mOk A q) (wob_0 A q) (j + 1)
      have v3 := wob_le w hq (mo (mOk A q) (wob A q) (j + 1)).1
      have em : mo (mOk A q) (wob A q) (j + 1 + 1) = if (mOk A q (j + 1) && decide ((mo (mOk A q) (wob A q) (j + 1)).2 < wob A q (j + 1))) = true then (j + 1, wob A q (j + 1)) else mo (mOk A q) (wob A q) (j + 1) := rfl
      rw [show (true, (0 : Int32), (0 : Int32)) = (true, nI 0, nI 0) from rfl] at o1
      simp only [M_most_s1, h'.hn, li_1, li_0, sh1 (show A.n < 29 by omega), if_pos (nI_lt (show j + 1 < 2 ^ A.n by omega) (show 2 ^ A.n < 2 ^ 31 by omega)), o1, Option.bind_some, em]
      cases hc : mOk A q (j + 1)
      · rw [hc] at o2; subst o2
        simp [nI_add]
      · rw [hc] at o2; subst o2
        rw [o3 rfl]
        have e1 : decide (nI (mo (mOk A q) (wob A q) (j + 1)).2 < nI (wob A q (j + 1))) = decide ((mo (mOk A q) (wob A q) (j + 1)).2 < wob A q (j + 1)) := decide_eq_decide.mpr (nI_ltI (by omega) (by omega))
        simp only [if_true, Option.bind_some, e1, Bool.true_and]
        by_cases g : (mo (mOk A q) (wob A q) (j + 1)).2 < wob A q (j + 1)
        · simp [g, nI_add]
        · simp [g, nI_add]) (by
      simp only [M_most_s1, h'.hn, li_1, sh1 (show A.n < 29 by omega), show 2 ^ A.n - 1 + 1 = 2 ^ A.n by omega, if_neg (nI_nlt (Nat.le_refl (2 ^ A.n)) (show 2 ^ A.n < 2 ^ 31 by omega))])
    rw [show mo (mOk A q) (wob A q) (0 + 1) = (0, 0) from e1] at k
    exact k
  simp only [Bool.not_true, Bool.false_eq_true, if_false, if_true, Option.bind_some, s1, nI_clamp (show q < 2 ^ 31 by omega), and_self]
  by_cases g : x = 0 <;> simp [g]
theorem L_13 {μ : MI} (h : INV μ) (x y : Int32) : ∃ μ', Lc_13 x y μ = some μ' ∧ INV μ' := by
  obtain ⟨A, w, co, k1, k2⟩ := h.1
  obtain ⟨m, e, g⟩ := M_most_v k2 w x y
  refine ⟨m, ?_, Lc_same h (ag_rf _ _) g⟩
  unfold Lc_13
  simp only [N_most_v k1 w x y, Option.bind_some, e, if_true]
