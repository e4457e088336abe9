/-! ===== the reference's land, by its value ===== -/
theorem lp_mem {ρ : Type} {step : Int32 × MI → Option ((Int32 × MI) ⊕ ρ)} (I : Nat → MI → Prop) (Post : ρ → Prop) (N : Nat) (hN : N < 50000) {μ : MI} (h0 : I 0 μ) (hs : ∀ k m, k < N → I k m → (∃ m', step (nI k, m) = some (.inl (nI (k + 1), m')) ∧ I (k + 1) m') ∨ (∃ r, step (nI k, m) = some (.inr r) ∧ Post r)) (he : ∀ m, I N m → ∃ r, step (nI N, m) = some (.inr r) ∧ Post r) : ∃ r, lp step FUEL (0, μ) = some r ∧ Post r := by
  refine lp_inv (fun k s => s.1 = nI k ∧ I k s.2) Post N hN (s := (0, μ)) ⟨rfl, h0⟩ ?_ ?_
  · rintro k ⟨i, m⟩ hk ⟨e, h⟩
    simp only at e; subst e
    rcases hs k m hk h with ⟨m', h1, h2⟩ | ⟨r, h1, h2⟩
    · exact Or.inl ⟨_, h1, rfl, h2⟩
    · exact Or.inr ⟨r, h1, h2⟩
  · rintro ⟨i, m⟩ ⟨e, h⟩
    simp only at e; subst e
    exact he m h
theorem lp_m {step : Int32 × MI → Option ((Int32 × MI) ⊕ MI)} (I : Nat → MI → Prop) (N : Nat) (hN : N < 50000) {μ : MI} (h0 : I 0 μ) (hs : ∀ k m, k < N → I k m → ∃ m', step (nI k, m) = some (.inl (nI (k + 1), m')) ∧ I (k + 1) m') (he : ∀ m, I N m → step (nI N, m) = some (.inr m)) : ∃ m, lp step FUEL (0, μ) = some m ∧ I N m :=
  lp_mem I (fun m => I N m) N hN h0 (fun k m hk h => Or.inl (hs k m hk h)) (fun m h => ⟨m, he m h, h⟩)
theorem bI_1 (b : Bool) : (bI b = 1) = (b = true) := by cases b <;> simp [bI]
theorem bI_1n (b : Bool) : (bI b = nI 1) = (b = true) := bI_1 b
theorem iI_eqn {z : Int} {q : Nat} (h1 : -2147483648 ≤ z) (h2 : z < 2147483648) (hq : q < 2 ^ 31) : (iI z = nI q) = (z = q) := by
  rw [← Int32.toInt_inj, iI_toInt h1 h2, nI_toInt hq]
theorem iI_ltn {z : Int} {q : Nat} (h1 : -2147483648 ≤ z) (h2 : z < 2147483648) (hq : q < 2 ^ 31) : (iI z < nI q) = (z < q) := by
  rw [Int32.lt_iff_toInt_lt, iI_toInt h1 h2, nI_toInt hq]
theorem m_isField {A μ} (h : MR A μ) (w : WF A) (x : Int32) : M_isField x μ = some (inR x A.n) := by
  have hn := w.n6
  unfold M_isField
  rw [h.hn, M_in_n x (by omega)]; rfl
theorem m_isPerson {A μ} (h : MR A μ) (w : WF A) (x : Int32) : M_isPerson x μ = some (inR x A.p) := by
  have hn := w.p3
  unfold M_isPerson
  rw [h.hp, M_in_n x (by omega)]; rfl
theorem m_bars {A μ} (h : MR A μ) (w : WF A) {a b : Nat} (ha : a < A.n) (hb : b < A.n) : M_bars (nI a) (nI b) μ = some (A.br a b) := by
  have hn := w.n6
  have t3 := w.t3 a b
  unfold M_bars LV.br
  simp only [li_1, li_3, li_6, pk_mul, nI_add, ldA_n (show 6 * a + b < 36 by omega) (by omega), h.hto ha hb, Option.bind_some, Option.bind_none, if_true, if_false, ite_true, ite_false, Bool.false_eq_true, Bool.true_eq_false, Bool.not_true, Bool.not_false, decide_true, decide_false, decide_eq_true_eq, Sum.elim_inl, Sum.elim_inr, ne_eq, not_true, not_false_iff, reduceIte, reduceCtorEq, Bool.cond_true, Bool.cond_false, h.hC, bI_1n, nI_eq (show A.to a b < 2 ^ 31 by omega) (show 1 < 2 ^ 31 by omega), nI_eq (show A.to a b < 2 ^ 31 by omega) (show 3 < 2 ^ 31 by omega)]
  by_cases e1 : A.to a b = 1
  · simp [e1]
  · by_cases e3 : A.to a b = 3 <;> simp [e1, e3]
theorem m_areKin {A μ} (h : MR A μ) (w : WF A) {o q : Nat} (ho : o < A.p) (hq : q < A.p) : M_areKin (nI o) (nI q) μ = some (A.K && (decide (A.ki o = q + 1) || decide (A.ki q = o + 1))) := by
  have hp := w.p3
  have k1 := w.kil ho
  have k2 := w.kil hq
  unfold M_areKin
  have e1 : ((A.ki o : Int) - 1 = (q : Int)) = (A.ki o = q + 1) := by apply propext; omega
  have e2 : ((A.ki q : Int) - 1 = (o : Int)) = (A.ki q = o + 1) := by apply propext; omega
  simp only [li_1, h.hK, bI_1n, ldA_n (show o < 3 by omega) (show 3 ≤ 5000 by omega), ldA_n (show q < 3 by omega) (show 3 ≤ 5000 by omega), h.hki ho, h.hki hq, Option.bind_some, Option.bind_none, if_true, if_false, ite_true, ite_false, Bool.false_eq_true, Bool.true_eq_false, Bool.not_true, Bool.not_false, decide_true, decide_false, decide_eq_true_eq, Sum.elim_inl, Sum.elim_inr, ne_eq, not_true, not_false_iff, reduceIte, reduceCtorEq, Bool.cond_true, Bool.cond_false, iI_eqn (show -2147483648 ≤ (A.ki o : Int) - 1 by omega) (show (A.ki o : Int) - 1 < 2147483648 by omega) (show q < 2 ^ 31 by omega), iI_eqn (show -2147483648 ≤ (A.ki q : Int) - 1 by omega) (show (A.ki q : Int) - 1 < 2147483648 by omega) (show o < 2 ^ 31 by omega), e1, e2]
  cases A.K
  · simp
  · by_cases g1 : A.ki o = q + 1 <;> simp [g1]
/-- the owning that is looked at -/
def OW (A : LV) (g : Nat → Nat) (μ : MI) : Prop := (∀ f, f < A.n → μ.1 69 f = nI (g f)) ∧ (∀ f, f < A.n → g f ≤ A.p)
theorem OW.tg {A g μ μ'} {P : Nat → Nat → Prop} (h : OW A g μ) (q : ag P μ μ') (z : ∀ a j, P a j → a ≠ 69) : OW A g μ' := ⟨fun f hf => (q.1 69 f (fun y => z _ _ y rfl)).trans (h.1 f hf), h.2⟩
theorem OW.sx {A g μ} (h : OW A g μ) (w : WF A) {f o : Nat} (hf : f < A.n) (ho : o ≤ A.p) : OW A (fun k => if k = f then o else g k) (si μ 69 f (nI o)) := by
  refine ⟨fun k hk => ?_, fun k hk => ?_⟩
  · rw [si_at]
    by_cases e : k = f
    · simp [e]
    · simp [e, h.1 k hk]
  · by_cases e : k = f
    · simp [e, ho]
    · simp [e, h.2 k hk]
theorem m_areApart {A g μ} (h : MR A μ) (w : WF A) (ho : OW A g μ) {a b : Nat} (ha : a < A.n) (hb : b < A.n) : M_areApart (nI a) (nI b) μ = some (!bad A g a b) := by
  have hn := w.n6
  have hp := w.p3
  have g1 := ho.2 a ha
  have g2 := ho.2 b hb
  unfold M_areApart bad
  rw [m_bars h w ha hb]
  simp only [li_0, li_1, ldA_n (show a < 6 by omega) (show 6 ≤ 5000 by omega), ldA_n (show b < 6 by omega) (show 6 ≤ 5000 by omega), ho.1 a ha, ho.1 b hb, Option.bind_some, Option.bind_none, if_true, if_false, ite_true, ite_false, Bool.false_eq_true, Bool.true_eq_false, Bool.not_true, Bool.not_false, decide_true, decide_false, decide_eq_true_eq, Sum.elim_inl, Sum.elim_inr, ne_eq, not_true, not_false_iff, reduceIte, reduceCtorEq, Bool.cond_true, Bool.cond_false, nI_eq (show g a < 2 ^ 31 by omega) (show 0 < 2 ^ 31 by omega), nI_eq (show g b < 2 ^ 31 by omega) (show 0 < 2 ^ 31 by omega), nI_eq (show g a < 2 ^ 31 by omega) (show g b < 2 ^ 31 by omega)]
  rcases Nat.eq_zero_or_pos (g a) with z1 | z1
  · simp [z1, one_0]
  rcases Nat.eq_zero_or_pos (g b) with z2 | z2
  · simp [z2, one_0r]
  obtain ⟨o, e1⟩ : ∃ o, g a = o + 1 := ⟨g a - 1, by omega⟩
  obtain ⟨q, e2⟩ : ∃ q, g b = q + 1 := ⟨g b - 1, by omega⟩
  rw [e1] at g1 z1 ⊢
  rw [e2] at g2 z2 ⊢
  rw [pk_sub (show 1 ≤ o + 1 by omega), pk_sub (show 1 ≤ q + 1 by omega), Nat.add_sub_cancel, Nat.add_sub_cancel, m_areKin h w (by omega) (by omega)]
  unfold LV.one
  simp only [Nat.add_sub_cancel]
  cases A.br a b
  · simp
  · by_cases e : o = q
    · simp [e]
    · cases A.K <;> simp [e]
theorem m_isFine {A g μ} (h : MR A μ) (w : WF A) (ho : OW A g μ) : M_isFine μ = some (lw A g) := by
  have hn := w.n6
  unfold M_isFine lw
  have inner : ∀ a fine, a < A.n → lp (M_isFine_s2 (nI a) μ) FUEL (fine, 0) = some (fine && al (fun b => !bad A g a b) a) := by
    intro a fine ha
    have q : lp (M_isFine_s2 (nI a) μ) FUEL (fine && al (fun b => !bad A g a b) 0, nI 0) = some (fine && al (fun b => !bad A g a b) a) := by
      refine lp_seq (fun k => (fine && al (fun b => !bad A g a b) k, nI k)) a (by omega) (fun i hi => ?_) ?_
      · simp only [M_isFine_s2, if_pos (nI_lt hi (show a < 2 ^ 31 by omega)), m_areApart h w ho ha (show i < A.n by omega), Option.bind_some, Option.bind_none, if_true, if_false, ite_true, ite_false, Bool.false_eq_true, Bool.true_eq_false, Bool.not_true, Bool.not_false, decide_true, decide_false, decide_eq_true_eq, Sum.elim_inl, Sum.elim_inr, ne_eq, not_true, not_false_iff, reduceIte, reduceCtorEq, Bool.cond_true, Bool.cond_false, li_1, nI_add, al]
        cases fine <;> cases al (fun b => !bad A g a b) i <;> simp
      · simp only [M_isFine_s2, if_neg (nI_nlt (Nat.le_refl a) (show a < 2 ^ 31 by omega))]
    rw [show (fine && al (fun b => !bad A g a b) 0) = fine from by simp [al]] at q
    exact q
  have outer : lp (M_isFine_s1 μ) FUEL (true, 0) = some (al (fun a => al (fun b => !bad A g a b) a) A.n) := by
    refine lp_seq (fun k => (al (fun a => al (fun b => !bad A g a b) a) k, nI k)) A.n (by omega) (fun i hi => ?_) ?_
    · simp only [M_isFine_s1, h.hn, if_pos (nI_lt hi (show A.n < 2 ^ 31 by omega)), inner i _ hi, Option.bind_some, Option.bind_none, if_true, if_false, ite_true, ite_false, Bool.false_eq_true, Bool.true_eq_false, Bool.not_true, Bool.not_false, decide_true, decide_false, decide_eq_true_eq, Sum.elim_inl, Sum.elim_inr, ne_eq, not_true, not_false_iff, reduceIte, reduceCtorEq, Bool.cond_true, Bool.cond_false, li_1, nI_add, al]
    · simp only [M_isFine_s1, h.hn, if_neg (nI_nlt (Nat.le_refl A.n) (show A.n < 2 ^ 31 by omega))]
  rw [outer]; rfl
theorem m_takeNow {A μ} (h : MR A μ) (w : WF A) : ∃ μ', M_takeNow μ = some μ' ∧ OW A A.ow μ' ∧ ag (fun a _ => a = 69) μ μ' := by
  have hn := w.n6
  unfold M_takeNow
  obtain ⟨m, e, h1, h2⟩ := lp_m (step := M_takeNow_s1) (fun k m => ag (fun a _ => a = 69) μ m ∧ ∀ f, f < k → f < A.n → m.1 69 f = nI (A.ow f)) 6 (by omega) (μ := μ) ⟨ag_rf _ _, fun f hf => absurd hf (Nat.not_lt_zero _)⟩ (fun k m hk ⟨q1, q2⟩ => by
    have hm := h.tg q1 (fun a j e => by unfold pM; omega)
    by_cases g : k < A.n
    · refine ⟨si m 69 k (nI (A.ow k)), ?_, ag_st q1 rfl, fun f hf hfn => ?_⟩
      · simp only [M_takeNow_s1, li_6, if_pos (nI_lt hk (show 6 < 2 ^ 31 by omega)), hm.hn, if_pos (nI_lt g (show A.n < 2 ^ 31 by omega)), ldA_n hk (show 6 ≤ 5000 by omega), hm.how g, Option.bind_some, Option.bind_none, if_true, if_false, ite_true, ite_false, Bool.false_eq_true, Bool.true_eq_false, Bool.not_true, Bool.not_false, decide_true, decide_false, decide_eq_true_eq, Sum.elim_inl, Sum.elim_inr, ne_eq, not_true, not_false_iff, reduceIte, reduceCtorEq, Bool.cond_true, Bool.cond_false, stA_n hk (show 6 ≤ 5000 by omega), li_1, nI_add]
      · rw [si_at]
        by_cases e : f = k
        · simp [e]
        · simp [e, q2 f (by omega) hfn]
    · refine ⟨si m 69 k (nI 0), ?_, ag_st q1 rfl, fun f hf hfn => ?_⟩
      · simp only [M_takeNow_s1, li_6, if_pos (nI_lt hk (show 6 < 2 ^ 31 by omega)), hm.hn, if_neg (nI_nlt (show A.n ≤ k by omega) (show k < 2 ^ 31 by omega)), Option.bind_some, Option.bind_none, if_true, if_false, ite_true, ite_false, Bool.false_eq_true, Bool.true_eq_false, Bool.not_true, Bool.not_false, decide_true, decide_false, decide_eq_true_eq, Sum.elim_inl, Sum.elim_inr, ne_eq, not_true, not_false_iff, reduceIte, reduceCtorEq, Bool.cond_true, Bool.cond_false, stA_n hk (show 6 ≤ 5000 by omega), li_1, li_0, nI_add]
      · rw [si_at, if_neg (by omega), q2 f (by omega) hfn]) (fun m _ => by simp only [M_takeNow_s1, li_6, nI_ltI (show 6 < 2 ^ 31 by omega) (show 6 < 2 ^ 31 by omega), Nat.lt_irrefl, Option.bind_some, Option.bind_none, if_true, if_false, ite_true, ite_false, Bool.false_eq_true, Bool.true_eq_false, Bool.not_true, Bool.not_false, decide_true, decide_false, decide_eq_true_eq, Sum.elim_inl, Sum.elim_inr, ne_eq, not_true, not_false_iff, reduceIte, reduceCtorEq, Bool.cond_true, Bool.cond_false])
  rw [e]
  exact ⟨m, rfl, ⟨fun f hf => h2 f (by omega) hf, fun f hf => w.owl hf⟩, h1⟩
theorem m_worthOf {A g μ} (h : MR A μ) (w : WF A) (ho : OW A g μ) {q : Nat} (hq : q < A.p) : M_worthOf (nI q) μ = some (nI (wow A g q)) := by
  have hn := w.n6
  have hp := w.p3
  unfold M_worthOf wow
  have key : lp (M_worthOf_s1 μ (nI q)) FUEL (0, 0) = some (nI (sm (fun f => if g f = q + 1 then A.wo q f else 0) A.n)) := by
    refine lp_seq (fun k => (nI (sm (fun f => if g f = q + 1 then A.wo q f else 0) k), nI k)) A.n (by omega) (fun i hi => ?_) ?_
    · have o1 := ho.2 i hi
      simp only [M_worthOf_s1, h.hn, if_pos (nI_lt hi (show A.n < 2 ^ 31 by omega)), ldA_n (show i < 6 by omega) (show 6 ≤ 5000 by omega), ho.1 i hi, li_1, li_6, pk_mul, nI_add, nI_eq (show g i < 2 ^ 31 by omega) (show q + 1 < 2 ^ 31 by omega), ldA_n (show 6 * q + i < 18 by omega) (show 18 ≤ 5000 by omega), h.hwo hq hi, Option.bind_some, Option.bind_none, if_true, if_false, ite_true, ite_false, Bool.false_eq_true, Bool.true_eq_false, Bool.not_true, Bool.not_false, decide_true, decide_false, decide_eq_true_eq, Sum.elim_inl, Sum.elim_inr, ne_eq, not_true, not_false_iff, reduceIte, reduceCtorEq, Bool.cond_true, Bool.cond_false, sm]
      by_cases e : g i = q + 1 <;> simp only [e, Option.bind_some, Option.bind_none, if_true, if_false, ite_true, ite_false, Bool.false_eq_true, Bool.true_eq_false, Bool.not_true, Bool.not_false, decide_true, decide_false, decide_eq_true_eq, Sum.elim_inl, Sum.elim_inr, ne_eq, not_true, not_false_iff, reduceIte, reduceCtorEq, Bool.cond_true, Bool.cond_false, li_0, nI_add]
    · simp only [M_worthOf_s1, h.hn, if_neg (nI_nlt (Nat.le_refl _) (show A.n < 2 ^ 31 by omega))]
  rw [key]; rfl
theorem m_worthOfAll {A g μ} (h : MR A μ) (w : WF A) (ho : OW A g μ) : M_worthOfAll μ = some (nI (sm (wow A g) A.p)) := by
  have hp := w.p3
  unfold M_worthOfAll
  have key : lp (M_worthOfAll_s1 μ) FUEL (0, 0) = some (nI (sm (wow A g) A.p)) := by
    refine lp_seq (fun k => (nI (sm (wow A g) k), nI k)) A.p (by omega) (fun i hi => ?_) ?_
    · simp only [M_worthOfAll_s1, h.hp, if_pos (nI_lt hi (show A.p < 2 ^ 31 by omega)), m_worthOf h w ho hi, li_1, nI_add, Option.bind_some, Option.bind_none, if_true, if_false, ite_true, ite_false, Bool.false_eq_true, Bool.true_eq_false, Bool.not_true, Bool.not_false, decide_true, decide_false, decide_eq_true_eq, Sum.elim_inl, Sum.elim_inr, ne_eq, not_true, not_false_iff, reduceIte, reduceCtorEq, Bool.cond_true, Bool.cond_false, sm]
    · simp only [M_worthOfAll_s1, h.hp, if_neg (nI_nlt (Nat.le_refl _) (show A.p < 2 ^ 31 by omega))]
  rw [key]; rfl
/-- all together: by people, or by fields -/
theorem sm_add (f g : Nat → Nat) : ∀ n, sm (fun k => f k + g k) n = sm f n + sm g n
  | 0 => rfl
  | n + 1 => by
    show sm (fun k => f k + g k) n + (f n + g n) = (sm f n + f n) + (sm g n + g n)
    rw [sm_add f g n]; omega
theorem sm_z : ∀ n, sm (fun _ => 0) n = 0
  | 0 => rfl
  | n + 1 => by show sm (fun _ => 0) n + 0 = 0; rw [sm_z n]
theorem sm_sw (h : Nat → Nat → Nat) (n : Nat) : ∀ (p : Nat), sm (fun q => sm (fun f => h q f) n) p = sm (fun f => sm (fun q => h q f) p) n
  | 0 => (sm_z n).symm
  | p + 1 => by
    show sm (fun q => sm (fun f => h q f) n) p + sm (fun f => h p f) n = sm (fun f => sm (fun q => h q f) p + h p f) n
    rw [sm_add, sm_sw h n p]
theorem sm_one (v : Nat → Nat) (o : Nat) : ∀ p, sm (fun q => if o = q + 1 then v q else 0) p = if 1 ≤ o ∧ o ≤ p then v (o - 1) else 0
  | 0 => by
    have : ¬ (1 ≤ o ∧ o ≤ 0) := by omega
    rw [if_neg this]; rfl
  | p + 1 => by
    unfold sm
    rw [sm_one v o p]
    by_cases e : o = p + 1
    · subst e
      rw [if_neg (by omega), if_pos rfl, if_pos (by omega)]; simp
    · by_cases g : 1 ≤ o ∧ o ≤ p
      · have : 1 ≤ o ∧ o ≤ p + 1 := by omega
        simp [g, this, e]
      · have : ¬ (1 ≤ o ∧ o ≤ p + 1) := by omega
        simp [g, this, e]
theorem wow_all {A : LV} {g : Nat → Nat} (hg : ∀ f, f < A.n → g f ≤ A.p) : sm (wow A g) A.p = sm (fun f => A.wt (g f) f) A.n := by
  unfold wow
  rw [sm_sw]
  refine sm_cg fun f hf => ?_
  have := hg f hf
  rw [sm_one (fun q => A.wo q f)]
  unfold LV.wt
  by_cases e : g f = 0
  · simp [e]
  · rw [if_pos (by omega), if_neg e]
theorem m_barring {A μ} (h : MR A μ) (w : WF A) {a : Nat} (ha : a < A.n) : M_barring (nI a) μ = some (nI (bs (fun b => A.br a b) A.n)) := by
  have hn := w.n6
  unfold M_barring
  have key : lp (M_barring_s1 μ (nI a)) FUEL (0, 0) = some (nI (bs (fun b => A.br a b) A.n)) := by
    refine lp_seq (fun k => (nI (bs (fun b => A.br a b) k), nI k)) A.n (by omega) (fun i hi => ?_) ?_
    · simp only [M_barring_s1, h.hn, if_pos (nI_lt hi (show A.n < 2 ^ 31 by omega)), m_bars h w ha hi, Option.bind_some, Option.bind_none, if_true, if_false, ite_true, ite_false, Bool.false_eq_true, Bool.true_eq_false, Bool.not_true, Bool.not_false, decide_true, decide_false, decide_eq_true_eq, Sum.elim_inl, Sum.elim_inr, ne_eq, not_true, not_false_iff, reduceIte, reduceCtorEq, Bool.cond_true, Bool.cond_false, li_1, sh1 (show i < 29 by omega), fa_or, nI_add, nI_eq (show i < 2 ^ 31 by omega) (show a < 2 ^ 31 by omega), bs]
      by_cases e : i = a
      · subst e
        rw [br_di w]
        simp
      · cases A.br a i <;> simp [e]
    · simp only [M_barring_s1, h.hn, if_neg (nI_nlt (Nat.le_refl _) (show A.n < 2 ^ 31 by omega))]
  rw [key]; rfl
theorem m_ownedBy {A μ} (h : MR A μ) (w : WF A) {q : Nat} (hq : q < A.p) : M_ownedBy (nI q) μ = some (nI (bs (fun f => decide (A.ow f = q + 1)) A.n)) := by
  have hn := w.n6
  have hp := w.p3
  unfold M_ownedBy
  have key : lp (M_ownedBy_s1 μ (nI q)) FUEL (0, 0) = some (nI (bs (fun f => decide (A.ow f = q + 1)) A.n)) := by
    refine lp_seq (fun k => (nI (bs (fun f => decide (A.ow f = q + 1)) k), nI k)) A.n (by omega) (fun i hi => ?_) ?_
    · have := w.owl hi
      simp only [M_ownedBy_s1, h.hn, if_pos (nI_lt hi (show A.n < 2 ^ 31 by omega)), ldA_n (show i < 6 by omega) (show 6 ≤ 5000 by omega), h.how hi, Option.bind_some, Option.bind_none, if_true, if_false, ite_true, ite_false, Bool.false_eq_true, Bool.true_eq_false, Bool.not_true, Bool.not_false, decide_true, decide_false, decide_eq_true_eq, Sum.elim_inl, Sum.elim_inr, ne_eq, not_true, not_false_iff, reduceIte, reduceCtorEq, Bool.cond_true, Bool.cond_false, li_1, sh1 (show i < 29 by omega), fa_or, nI_add, nI_eq (show A.ow i < 2 ^ 31 by omega) (show q + 1 < 2 ^ 31 by omega), bs]
      by_cases e : A.ow i = q + 1 <;> simp [e]
    · simp only [M_ownedBy_s1, h.hn, if_neg (nI_nlt (Nat.le_refl _) (show A.n < 2 ^ 31 by omega))]
  rw [key]; rfl
