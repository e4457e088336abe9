theorem al_ff {P : Nat → Bool} {n k : Nat} (hk : k < n) (h : P k = false) : al P n = false := by
  cases hq : al P n
  · rfl
  · rw [al_iff.mp hq k hk] at h; cases h
theorem al_ex {P : Nat → Bool} : ∀ {n : Nat}, al P n = false → ∃ k, k < n ∧ P k = false
  | 0, h => by cases h
  | n + 1, h => by
    have h : (al P n && P n) = false := h
    cases hp : P n
    · exact ⟨n, by omega, hp⟩
    · rw [hp, Bool.and_true] at h
      obtain ⟨k, hk, e⟩ := al_ex h
      exact ⟨k, by omega, e⟩
theorem c_numCan {t A μ} (h : CR t A μ) (w : WF A) {d : Nat → Nat} {f p : Nat} (hf : f < A.n) (hp : p < 10) (hd : ∀ g, g < f → μ.1 29 g = nI (d g)) (hl : ∀ g, g < f → d g < 10) : Numbering_canHave t (nI f) (nI p) μ = some (al (fun g => !(decide (d g = p) && A.br g f)) f) := by
  have hn := w.n6
  unfold Numbering_canHave
  have st : ∀ g, g < f → Numbering_canHave_s1 (nI f) μ (nI p) t (nI g) = if (decide (d g = p) && A.br g f) = true then some (.inr (.inr false)) else some (.inl (nI (g + 1))) := fun g hg => by
    have l1 := hl g hg
    simp only [Numbering_canHave_s1, if_pos (nI_lt hg (show f < 2 ^ 31 by omega)), li_6, Option.bind_some, decide_eq_true (nI_lt (show g < 6 by omega) (show 6 < 2 ^ 31 by omega)), if_true, ldA_n (show g < 6 by omega) (show 6 ≤ 5000 by omega), hd g hg, nI_eq (show d g < 2 ^ 31 by omega) (show p < 2 ^ 31 by omega), c_bars h w (show g < 6 by omega) (show f < 6 by omega), li_1, nI_add]
    by_cases e : d g = p
    · cases A.br g f <;> simp [e]
    · simp [e]
  have k1 := lp_find (step := Numbering_canHave_s1 (nI f) μ (nI p) t) (fun k => nI k) (fun g => decide (d g = p) && A.br g f) (.inl ()) (fun _ => .inr false) f (by omega) (fun k hk hq => by rw [st k hk, if_neg (by rw [hq]; decide)]) (fun k hk hq => by rw [st k hk, if_pos hq]) (by
    simp only [Numbering_canHave_s1, if_neg (nI_nlt (Nat.le_refl f) (show f < 2 ^ 31 by omega)), Option.bind_some, Bool.false_eq_true, if_false])
  rw [show (nI 0 : Int32) = 0 from rfl] at k1
  rcases k1 with ⟨k, hk, hq, _, e⟩ | ⟨hall, e⟩
  · rw [e, al_ff hk (by rw [hq]; rfl)]; rfl
  · rw [e, al_iff.mpr (fun k hk => by rw [hall k hk]; rfl)]; rfl
theorem c_number {A : LV} (w : WF A) {P : Nat} (hP : P ≤ 6) : ∀ (r fuel f B : Nat) (μ : MI), r < fuel → f + r = A.n → CR 1 A μ → (∀ g, g < f → μ.1 29 g = nI (pfx P f B g)) → (∀ a b, a < f → b < a → A.br a b = true → pfx P f B a ≠ pfx P f B b) → (0 < f → 0 < P) →
    ∃ b μ', Numbering_numberFrom fuel 1 (nI f) (nI P) μ = some (b, μ') ∧ ag (fun a _ => a = 29) μ μ' ∧ (∀ g, g < f → μ'.1 29 g = μ.1 29 g) ∧ ((b = false ∧ ∀ m, B * P ^ r ≤ m → m < (B + 1) * P ^ r → vF A (pfx P A.n m) = false) ∨ (b = true ∧ ∃ m, B * P ^ r ≤ m ∧ m < (B + 1) * P ^ r ∧ vF A (pfx P A.n m) = true ∧ (∀ m', B * P ^ r ≤ m' → m' < m → vF A (pfx P A.n m') = false) ∧ ∀ g, g < A.n → μ'.1 29 g = nI (pfx P A.n m g)))
  | 0, 0, f, B, μ, h0, _, _, _, _, _ => absurd h0 (Nat.not_lt_zero _)
  | 0, fuel + 1, f, B, μ, h0, hr, h, hd, hv, hfp => by
    have hn := w.n6
    have hf : f = A.n := by omega
    subst hf
    refine ⟨true, μ, ?_, ag_rf _ _, fun _ _ => rfl, Or.inr ⟨rfl, B, by rw [Nat.pow_zero]; omega, by rw [Nat.pow_zero]; omega, vF_iff.mpr hv, fun m' h1 h2 => ?_, fun g hg => hd g hg⟩⟩
    · unfold Numbering_numberFrom
      rw [h.hn]
      have c : (if nI A.n < 0 then some true else if (6 : Int32) ≤ nI A.n then some true else some (decide (nI A.n ≤ nI A.n))) = some true := by
        rw [if_neg (nI_pos (by omega))]
        by_cases g : (6 : Int32) ≤ nI A.n
        · rw [if_pos g]
        · rw [if_neg g, decide_eq_true (nI_le (Nat.le_refl _) (by omega))]
      rw [c]; rfl
    · rw [Nat.pow_zero] at h1; omega
  | r + 1, 0, f, B, μ, h0, _, _, _, _, _ => absurd h0 (Nat.not_lt_zero _)
  | r + 1, fuel + 1, f, B, μ, h0, hr, h, hd, hv, hfp => by
    have hn := w.n6
    have hf : f < A.n := by omega
    unfold Numbering_numberFrom
    rw [h.hn]
    have c : (if nI f < 0 then some true else if (6 : Int32) ≤ nI f then some true else some (decide (nI A.n ≤ nI f))) = some false := by
      rw [if_neg (nI_pos (by omega)), if_neg (by rw [li_6]; exact nI_ge (by omega) (by omega)), decide_eq_false (nI_ge hf (by omega))]
    rw [c]
    simp only [Option.bind_some, Bool.false_eq_true, if_false]
    have m0 : (B * P + 0) * P ^ r = B * P ^ (r + 1) := by rw [Nat.add_zero, Nat.pow_succ, Nat.mul_assoc, Nat.mul_comm P]
    have m1 : (B * P + P) * P ^ r = (B + 1) * P ^ (r + 1) := by rw [← Nat.succ_mul, Nat.pow_succ, Nat.mul_assoc, Nat.mul_comm P]
    have key := lp_mem (step := Numbering_numberFrom_s1 (nI P) 1 (nI f) (Numbering_numberFrom fuel)) (μ := μ) (fun p t => ag (fun a _ => a = 29) μ t ∧ (∀ g, g < f → t.1 29 g = μ.1 29 g) ∧ ∀ m, B * P ^ (r + 1) ≤ m → m < (B * P + p) * P ^ r → vF A (pfx P A.n m) = false)
      (fun o => Sum.elim (fun t => ag (fun a _ => a = 29) μ t ∧ (∀ g, g < f → t.1 29 g = μ.1 29 g) ∧ ∀ m, B * P ^ (r + 1) ≤ m → m < (B + 1) * P ^ (r + 1) → vF A (pfx P A.n m) = false) (fun q => q.1 = true ∧ ag (fun a _ => a = 29) μ q.2 ∧ (∀ g, g < f → q.2.1 29 g = μ.1 29 g) ∧ ∃ m, B * P ^ (r + 1) ≤ m ∧ m < (B + 1) * P ^ (r + 1) ∧ vF A (pfx P A.n m) = true ∧ (∀ m', B * P ^ (r + 1) ≤ m' → m' < m → vF A (pfx P A.n m') = false) ∧ ∀ g, g < A.n → q.2.1 29 g = nI (pfx P A.n m g)) o) P (by omega) ⟨ag_rf _ _, fun _ _ => rfl, fun m h1 h2 => by omega⟩ (by
      rintro p t hp ⟨t1, t2, t3⟩
      have ht : CR 1 A t := h.tg t1 (fun a j z1 z2 z3 => by omega)
      have lo : B * P ^ (r + 1) ≤ (B * P + p) * P ^ r := by
        rw [← m0]; exact Nat.mul_le_mul_right _ (by omega)
      have hi : (B * P + p + 1) * P ^ r ≤ (B + 1) * P ^ (r + 1) := by
        rw [← m1]; exact Nat.mul_le_mul_right _ (by omega)
      have dig : ∀ m, (B * P + p) * P ^ r ≤ m → m < (B * P + p + 1) * P ^ r → (∀ g, g < f → pfx P A.n m g = pfx P f B g) ∧ pfx P A.n m f = p := fun m h1 h2 => by
        have e : A.n = f + 1 + r := by omega
        refine ⟨fun g hg => ?_, ?_⟩
        · rw [e, pfx_rng h1 h2 (by omega), pfx_up hp hg]
        · rw [e, pfx_rng h1 h2 (by omega), pfx_last hp]
      have can := c_numCan ht w (d := pfx P f B) hf (p := p) (by omega) (fun g hg => (t2 g hg).trans (hd g hg)) (fun g hg => by have := pfx_lt (P := P) (f := f) (B := B) (g := g) (by omega); omega)
      unfold Numbering_numberFrom_s1
      simp only []
      rw [if_pos (nI_lt hp (by omega)), can]
      simp only [Option.bind_some]
      cases hc : al (fun g => !(decide (pfx P f B g = p) && A.br g f)) f
      · refine Or.inl ⟨t, ?_, t1, t2, fun m h1 h2 => ?_⟩
        · simp only [Bool.false_eq_true, if_false, Option.bind_some, Sum.elim_inl, li_1, nI_add]
        · by_cases q : m < (B * P + p) * P ^ r
          · exact t3 m h1 q
          · obtain ⟨d1, d2⟩ := dig m (by omega) (by rw [show B * P + p + 1 = B * P + (p + 1) by omega]; exact h2)
            obtain ⟨g, hg, eg⟩ := al_ex hc
            rw [Bool.not_eq_false', Bool.and_eq_true, decide_eq_true_eq] at eg
            cases hq : vF A (pfx P A.n m)
            · rfl
            · have := vF_iff.mp hq f g hf hg (by rw [br_sy w]; exact eg.2)
              rw [d2, d1 g hg] at this
              exact absurd eg.1.symm this
      · have hc := al_iff.mp hc
        have hs : stA 6 t 29 (nI f) (nI p) = some (si t 29 f (nI p)) := stA_n (by omega) (by omega)
        have g1 : ag (fun a _ => a = 29) μ (si t 29 f (nI p)) := ag_st t1 rfl
        have pd : ∀ g, g < f + 1 → (si t 29 f (nI p)).1 29 g = nI (pfx P (f + 1) (B * P + p) g) := fun g hg => by
          rw [si_at]
          by_cases e : g = f
          · rw [if_pos e, e, pfx_last hp]
          · rw [if_neg e, t2 g (by omega), hd g (by omega), pfx_up hp (by omega)]
        have pv : ∀ a b, a < f + 1 → b < a → A.br a b = true → pfx P (f + 1) (B * P + p) a ≠ pfx P (f + 1) (B * P + p) b := fun a b ha hb hbr => by
          by_cases e : a = f
          · subst e
            rw [pfx_last hp, pfx_up hp hb]
            intro q
            have := hc b hb
            rw [decide_eq_true q.symm, br_sy w, hbr] at this
            cases this
          · rw [pfx_up hp (show a < f by omega), pfx_up hp (show b < f by omega)]
            exact hv a b (by omega) hb hbr
        obtain ⟨b, t', e1, e2, e3, e4⟩ := c_number w hP r fuel (f + 1) (B * P + p) (si t 29 f (nI p)) (by omega) (by omega) (h.tg g1 (fun a j z1 z2 z3 => by omega)) pd pv (fun _ => by omega)
        have g2 := ag_tr g1 e2
        have pr : ∀ g, g < f → t'.1 29 g = μ.1 29 g := fun g hg => by
          rw [e3 g (by omega), si_at, if_neg (by omega), t2 g hg]
        have e1' : Numbering_numberFrom fuel 1 (nI f + 1) (nI P) (si t 29 f (nI p)) = some (b, t') := by rw [li_1, nI_add]; exact e1
        rw [hs]
        simp only [if_true, Option.bind_some]
        rw [e1']
        simp only [Option.bind_some]
        rcases e4 with ⟨rfl, f1⟩ | ⟨rfl, m, f1, f2, f3, f4, f5⟩
        · refine Or.inl ⟨t', ?_, g2, pr, fun m h1 h2 => ?_⟩
          · simp only [Bool.false_eq_true, if_false, Option.bind_some, Sum.elim_inl, li_1, nI_add]
          · by_cases q : m < (B * P + p) * P ^ r
            · exact t3 m h1 q
            · exact f1 m (by omega) (by rw [show B * P + p + 1 = B * P + (p + 1) by omega]; exact h2)
        · refine Or.inr ⟨.inr (true, t'), ?_, rfl, g2, pr, m, by omega, by omega, f3, fun m' h1 h2 => ?_, f5⟩
          · simp only [if_true, Option.bind_some, Sum.elim_inr]
          · by_cases q : m' < (B * P + p) * P ^ r
            · exact t3 m' h1 q
            · exact f4 m' (by omega) h2) (by
      rintro t ⟨t1, t2, t3⟩
      refine ⟨.inl t, ?_, t1, t2, fun m h1 h2 => t3 m h1 (by rw [m1]; exact h2)⟩
      unfold Numbering_numberFrom_s1
      simp only []
      rw [if_neg (nI_nlt (Nat.le_refl P) (by omega))])
    obtain ⟨o, o1, o2⟩ := key
    rw [o1]
    rcases o with t | ⟨b, t⟩
    · obtain ⟨t1, t2, t3⟩ := o2
      exact ⟨false, t, rfl, t1, t2, Or.inl ⟨rfl, t3⟩⟩
    · obtain ⟨t0, t1, t2, t3⟩ := o2
      simp only at t0
      subst t0
      exact ⟨true, t, rfl, t1, t2, Or.inr ⟨rfl, t3⟩⟩
/-- the fewest, and the first numbering -/
def FEW (A : LV) (P m : Nat) : Prop := P ≤ 6 ∧ m < P ^ A.n ∧ vF A (pfx P A.n m) = true ∧ (∀ m', m' < m → vF A (pfx P A.n m') = false) ∧ ∀ Q, Q < P → ∀ m', m' < Q ^ A.n → vF A (pfx Q A.n m') = false
theorem FEW.uniq {A : LV} {P m Q k : Nat} (h : FEW A P m) (g : FEW A Q k) : P = Q ∧ m = k := by
  obtain ⟨h1, h2, h3, h4, h5⟩ := h
  obtain ⟨g1, g2, g3, g4, g5⟩ := g
  have e : P = Q := by
    rcases Nat.lt_trichotomy P Q with e | e | e
    · rw [g5 P e m h2] at h3; cases h3
    · exact e
    · rw [h5 Q e k g2] at g3; cases g3
  subst e
  refine ⟨rfl, ?_⟩
  rcases Nat.lt_trichotomy m k with e | e | e
  · rw [g4 m e] at h3; cases h3
  · exact e
  · rw [h4 k e] at g3; cases g3
theorem few_n (A : LV) (P : Nat) (hP : A.n ≤ P) : ∃ m, m < P ^ A.n ∧ vF A (pfx P A.n m) = true := by
  have hd : ∀ g, g < A.n → (fun g => g) g < P := fun g hg => by show g < P; omega
  refine ⟨enc P (fun g => g) A.n, enc_lt hd, vF_iff.mpr fun a b ha hb _ => ?_⟩
  rw [enc_pfx hd a ha, enc_pfx hd b (by omega)]
  show a ≠ b
  omega
theorem c_fewestFor {A : LV} {μ : MI} (h : CR 1 A μ) (w : WF A) : ∃ P m μ', Numbering_fewestFor 1 μ = some (nI P, μ') ∧ FEW A P m ∧ ag pC μ μ' ∧ ∀ g, g < A.n → μ'.1 29 g = nI (pfx P A.n m g) := by
  have hn := w.n6
  have num := fun (P : Nat) (hP : P ≤ 6) (t : MI) (ht : CR 1 A t) => c_number w hP A.n 20 0 0 t (by omega) (by omega) ht (fun g hg => absurd hg (Nat.not_lt_zero _)) (fun a b ha => absurd ha (Nat.not_lt_zero _)) (fun z => absurd z (Nat.lt_irrefl _))
  unfold Numbering_fewestFor
  have key := lp_mem (step := Numbering_fewestFor_s1 1) (μ := μ) (fun P t => ag (fun a _ => a = 29) μ t ∧ ∀ Q, Q < P → ∀ m', m' < Q ^ A.n → vF A (pfx Q A.n m') = false)
    (fun o => Sum.elim (fun t => ag (fun a _ => a = 29) μ t ∧ ∀ Q, Q < 6 → ∀ m', m' < Q ^ A.n → vF A (pfx Q A.n m') = false) (fun q => ∃ P m, q.1 = nI P ∧ FEW A P m ∧ ag (fun a _ => a = 29) μ q.2 ∧ ∀ g, g < A.n → q.2.1 29 g = nI (pfx P A.n m g)) o) 6 (by omega) ⟨ag_rf _ _, fun Q hQ => absurd hQ (Nat.not_lt_zero _)⟩ (by
    rintro P t hP ⟨t1, t2⟩
    obtain ⟨b, t', e1, e2, e3, e4⟩ := num P (by omega) t (h.tg t1 (fun a j z1 z2 z3 => by omega))
    unfold Numbering_fewestFor_s1
    simp only []
    rw [li_6, if_pos (nI_lt hP (by omega)), show (0 : Int32) = nI 0 from rfl, e1]
    simp only [Option.bind_some]
    rcases e4 with ⟨rfl, f1⟩ | ⟨rfl, m, f1, f2, f3, f4, f5⟩
    · refine Or.inl ⟨t', ?_, ag_tr t1 e2, fun Q hQ m' hm => ?_⟩
      · simp only [Bool.false_eq_true, if_false, Option.bind_some, li_1, nI_add]
      · by_cases e : Q = P
        · subst e
          exact f1 m' (by rw [Nat.zero_mul]; omega) (by rw [Nat.zero_add, Nat.one_mul]; exact hm)
        · exact t2 Q (by omega) m' hm
    · rw [Nat.zero_add, Nat.one_mul] at f2
      rw [Nat.zero_mul] at f4
      refine Or.inr ⟨.inr (nI P, t'), rfl, P, m, rfl, ⟨by omega, f2, f3, fun m' hm => f4 m' (Nat.zero_le _) hm, t2⟩, ag_tr t1 e2, f5⟩) (by
    rintro t ⟨t1, t2⟩
    refine ⟨.inl t, ?_, t1, t2⟩
    simp only [Numbering_fewestFor_s1, li_6, nI_ltI (show 6 < 2 ^ 31 by omega) (show 6 < 2 ^ 31 by omega), Nat.lt_irrefl, if_false])
  obtain ⟨o, o1, o2⟩ := key
  rw [o1]
  rcases o with t | ⟨r, t⟩
  · obtain ⟨t1, t2⟩ := o2
    obtain ⟨b, t', e1, e2, e3, e4⟩ := num 6 (by omega) t (h.tg t1 (fun a j z1 z2 z3 => by omega))
    rw [show (nI 0 : Int32) = 0 from rfl, show (nI 6 : Int32) = 6 from rfl] at e1
    rw [Nat.zero_mul, Nat.zero_add, Nat.one_mul] at e4
    simp only [Option.bind_some, Sum.elim_inl, e1]
    obtain ⟨m, hm1, hm2⟩ := few_n A 6 hn
    rcases e4 with ⟨rfl, f1⟩ | ⟨rfl, m, f1, f2, f3, f4, f5⟩
    · rw [f1 m (Nat.zero_le _) hm1] at hm2; cases hm2
    · exact ⟨6, m, t', rfl, ⟨Nat.le_refl _, f2, f3, fun m' hm => f4 m' (Nat.zero_le _) hm, t2⟩, ag_mo (ag_tr t1 e2) (fun a j q => Or.inr (by omega)), f5⟩
  · obtain ⟨P, m, p1, p2, p3, p4⟩ := o2
    simp only at p1 p3 p4
    subst p1
    exact ⟨P, m, t, rfl, p2, ag_mo p3 (fun a j q => Or.inr (by omega)), p4⟩
theorem N_fewest_v {A : LV} {μ : MI} (h : CR 1 A μ) (w : WF A) (x : Int32) : ∃ P m μ1, FEW A P m ∧ N_fewest x μ = some (if x = -1 then nI P else if inR x A.n = true then nI (pfx P A.n m x.toNatClampNeg) else -1, μ1) ∧ ag pC μ μ1 := by
  have hn := w.n6
  obtain ⟨P, m, μ1, e1, e2, e3, e4⟩ := c_fewestFor h w
  unfold N_fewest
  rw [c_isField h w]
  by_cases g : x = -1
  · refine ⟨P, m, μ1, e2, ?_, e3⟩
    rw [if_neg (fun q => q g), if_pos g]
    simp only [Option.bind_some, Bool.false_eq_true, if_false, e1, if_pos g]
  · rw [if_pos g]
    cases hx : inR x A.n
    · exact ⟨P, m, μ, e2, by rw [if_neg g]; rfl, ag_rf _ _⟩
    · refine ⟨P, m, μ1, e2, ?_, e3⟩
      obtain ⟨f, hf, rfl⟩ := inR_t hx
      rw [if_neg g]
      simp only [Option.bind_some, Bool.not_true, Bool.false_eq_true, if_false, e1, if_neg g, if_true]
      unfold Numbering_numberOf
      rw [if_pos (nI_pos' (by omega)), li_6, decide_eq_true (nI_lt (show f < 6 by omega) (by omega))]
      simp only [Option.bind_some, if_true, ldA_n (show f < 6 by omega) (show 6 ≤ 5000 by omega), e4 f hf, nI_clamp (show f < 2 ^ 31 by omega)]
theorem M_fewest_v {A : LV} {μ : MI} (h : MR A μ) (w : WF A) (x : Int32) : ∃ P m μ1, FEW A P m ∧ M_fewest x μ = some (if x = -1 then nI P else if inR x A.n = true then nI (pfx P A.n m x.toNatClampNeg) else -1, μ1) ∧ ag pM μ μ1 := by
  have hn := w.n6
  have g0 : ag pM μ (si μ 62 10 (nI 0)) := ag_62 (by omega)
  have h' : MR A (si μ 62 10 (nI 0)) := h.agM g0
  unfold M_fewest
  rw [thr0]
  simp only [Option.bind_some, m_isField h' w]
  by_cases gx : x ≠ -1 ∧ inR x A.n = false
  · obtain ⟨P, m, hm⟩ : ∃ P m, FEW A P m := by
      have key : ∀ k, k ≤ 6 → (∃ P m, FEW A P m) ∨ ∀ Q, Q < k → ∀ m', m' < Q ^ A.n → vF A (pfx Q A.n m') = false := by
        intro k
        induction k with
        | zero => exact fun _ => Or.inr fun Q hQ => absurd hQ (Nat.not_lt_zero _)
        | succ k ih =>
          intro hk
          rcases ih (by omega) with q | q
          · exact Or.inl q
          · rcases fnd_cases (fun m => vF A (pfx k A.n m)) (k ^ A.n) with ⟨m, m1, m2, m3, _⟩ | ⟨m1, _⟩
            · exact Or.inl ⟨k, m, by omega, m1, m2, m3, q⟩
            · refine Or.inr fun Q hQ m' hm => ?_
              by_cases e : Q = k
              · subst e; exact m1 m' hm
              · exact q Q (by omega) m' hm
      rcases key 6 (Nat.le_refl _) with q | q
      · exact q
      · obtain ⟨m, hm1, hm2⟩ := few_n A 6 hn
        rcases fnd_cases (fun m => vF A (pfx 6 A.n m)) (6 ^ A.n) with ⟨m, m1, m2, m3, _⟩ | ⟨m1, _⟩
        · exact ⟨6, m, Nat.le_refl _, m1, m2, m3, q⟩
        · rw [m1 m hm1] at hm2; cases hm2
    refine ⟨P, m, si μ 62 10 (nI 0), hm, ?_, g0⟩
    rw [if_pos gx.1, if_neg gx.1, gx.2]; rfl
  have c6 : (if x ≠ -1 then some (!inR x A.n) else some false) = some false := by
    by_cases g : x = -1
    · rw [if_neg (fun q => q g)]
    · rw [if_pos g]
      cases hx : inR x A.n
      · exact absurd ⟨g, hx⟩ gx
      · rfl
  rw [c6]
  simp only [Option.bind_some, Bool.false_eq_true, if_false]
  have pw : ∀ P, P ≤ 6 → P ^ A.n ≤ 46656 := fun P hP => by
    have h1 : P ^ A.n ≤ 6 ^ A.n := Nat.pow_le_pow_left hP _
    have h2 : 6 ^ A.n ≤ 6 ^ 6 := Nat.pow_le_pow_right (by decide) hn
    omega
  have key := lp_mem (step := M_fewest_s1 x) (μ := si μ 62 10 (nI 0)) (fun P t => ag pM μ t ∧ ∀ Q, Q < P → ∀ m', m' < Q ^ A.n → vF A (pfx Q A.n m') = false)
    (fun o => Sum.elim (fun t => ∀ Q, Q < A.n + 1 → ∀ m', m' < Q ^ A.n → vF A (pfx Q A.n m') = false) (fun q => ∃ P m, FEW A P m ∧ q.1 = (if x < 0 then nI P else nI (pfx P A.n m x.toNatClampNeg)) ∧ ag pM μ q.2) o) (A.n + 1) (by omega) ⟨g0, fun Q hQ => absurd hQ (Nat.not_lt_zero _)⟩ (by
    rintro P t hP ⟨t1, t2⟩
    have ht : MR A t := h.agM t1
    have p1 := pw P (by omega)
    unfold M_fewest_s1
    simp only []
    rw [ht.hn, if_pos (nI_le (show P ≤ A.n by omega) (by omega)), m_power A.n hn]
    simp only [Option.bind_some]
    have inner := lp_mem (step := M_fewest_s2 (nI (P ^ A.n)) (nI P) x) (μ := t) (fun k u => ag pM μ u ∧ ∀ m', m' < k → vF A (pfx P A.n m') = false)
      (fun o => Sum.elim (fun u => ag pM μ u ∧ ∀ m', m' < P ^ A.n → vF A (pfx P A.n m') = false) (fun q => ∃ m, FEW A P m ∧ q.1 = (if x < 0 then nI P else nI (pfx P A.n m x.toNatClampNeg)) ∧ ag pM μ q.2) o) (P ^ A.n) (by omega) ⟨t1, fun m' hm => absurd hm (Nat.not_lt_zero _)⟩ (by
      rintro k u hk ⟨u1, u2⟩
      have hu : MR A u := h.agM u1
      have hPn : P = 0 → A.n = 0 := fun e => by
        rcases Nat.eq_zero_or_pos A.n with z | z
        · exact z
        · subst e
          rw [Nat.zero_pow z] at hk; omega
      have ex : (if nI P = 0 then some 1 else some (nI P)) = some (nI (if P = 0 then 1 else P)) := by
        by_cases e : P = 0
        · subst e; rfl
        · rw [if_neg (by rw [li_0, nI_eq (by omega) (by omega)]; exact e), if_neg e]
      obtain ⟨v, s1, s2, s3⟩ := m_spread hu w (P := if P = 0 then 1 else P) (m := k) (by split <;> omega) (by split <;> omega) (by omega)
      have hv : MR A v := hu.tg s3 (fun a j e => Or.inl (Or.inr (Or.inl (by omega))))
      have dgP : DG A (pfx P A.n k) v := fun g hg => by
        have hP0 : P ≠ 0 := fun e => by have := hPn e; omega
        have := s2 g hg
        rw [if_neg hP0] at this; exact this
      have col := m_isColouring hv w dgP (fun g hg => by
        have hP0 : P ≠ 0 := fun e => by have := hPn e; omega
        have := pfx_lt (P := P) (f := A.n) (B := k) (g := g) (by omega)
        omega)
      have gv : ag pM μ v := ag_tr u1 (ag_mo s3 (fun a j e => Or.inr (Or.inl (by omega))))
      unfold M_fewest_s2
      simp only []
      rw [if_pos (nI_lt hk (by omega)), ex]
      simp only [Option.bind_some, s1, col]
      cases hc : vF A (pfx P A.n k)
      · refine Or.inl ⟨v, ?_, gv, fun m' hm => ?_⟩
        · simp only [Bool.false_eq_true, if_false, Option.bind_some, li_1, nI_add]
        · by_cases e : m' = k
          · rw [e]; exact hc
          · exact u2 m' (by omega)
      · refine Or.inr ⟨.inr (if x < 0 then nI P else nI (pfx P A.n k x.toNatClampNeg), v), ?_, k, ⟨by omega, hk, hc, u2, t2⟩, rfl, gv⟩
        by_cases e : x < 0
        · simp only [if_true, if_pos e, Option.bind_some]
        · have hx : inR x A.n = true := by
            cases hx : inR x A.n
            · exact absurd ⟨fun q => e (by rw [q]; decide), hx⟩ gx
            · rfl
          obtain ⟨f, hf, rfl⟩ := inR_t hx
          simp only [if_true, if_neg e, Option.bind_some, ldA_n (show f < 6 by omega) (show 6 ≤ 5000 by omega), dgP f hf, nI_clamp (show f < 2 ^ 31 by omega)]) (by
      rintro u ⟨u1, u2⟩
      refine ⟨.inl u, ?_, u1, u2⟩
      simp only [M_fewest_s2, if_neg (nI_nlt (Nat.le_refl (P ^ A.n)) (show P ^ A.n < 2 ^ 31 by omega))])
    obtain ⟨o, o1, o2⟩ := inner
    rw [o1]
    rcases o with u | ⟨q, u⟩
    · obtain ⟨u1, u2⟩ := o2
      refine Or.inl ⟨u, ?_, u1, fun Q hQ m' hm => ?_⟩
      · simp only [Option.bind_some, Sum.elim_inl, li_1, nI_add]
      · by_cases e : Q = P
        · subst e; exact u2 m' hm
        · exact t2 Q (by omega) m' hm
    · obtain ⟨m, m1, m2, m3⟩ := o2
      exact Or.inr ⟨.inr (q, u), rfl, P, m, m1, m2, m3⟩) (by
    rintro t ⟨t1, t2⟩
    refine ⟨.inl t, ?_, t2⟩
    have ht : MR A t := h.agM t1
    simp only [M_fewest_s1, ht.hn, if_neg (nI_ge (show A.n < A.n + 1 by omega) (show A.n + 1 < 2 ^ 31 by omega))])
  obtain ⟨o, o1, o2⟩ := key
  rw [o1]
  rcases o with t | ⟨q, t⟩
  · exfalso
    obtain ⟨m, hm1, hm2⟩ := few_n A A.n (Nat.le_refl _)
    rw [o2 A.n (by omega) m hm1] at hm2; cases hm2
  · obtain ⟨P, m, m1, m2, m3⟩ := o2
    simp only at m2 m3
    subst m2
    refine ⟨P, m, t, m1, ?_, m3⟩
    simp only [Option.bind_some, Sum.elim_inr]
    by_cases g : x = -1
    · subst g
      rw [if_pos (show (-1 : Int32) < 0 from by decide), if_pos rfl]
    · have hx : inR x A.n = true := by
        cases hx : inR x A.n
        · exact absurd ⟨g, hx⟩ gx
        · rfl
      rw [if_neg g, hx, if_pos rfl]
      obtain ⟨f, hf, rfl⟩ := inR_t hx
      rw [if_neg (nI_pos (by omega))]
theorem L_12 {μ : MI} (h : INV μ) (x : Int32) : ∃ μ', Lc_12 x μ = some μ' ∧ INV μ' := by
  obtain ⟨A, w, co, k1, k2⟩ := h.1
  obtain ⟨P, k, m1, f1, e1, g1⟩ := N_fewest_v k1 w x
  obtain ⟨Q, k', m, f2, e, g⟩ := M_fewest_v (k2.agC g1) w x
  obtain ⟨rfl, rfl⟩ := f1.uniq f2
  refine ⟨m, ?_, Lc_same h g1 g⟩
  unfold Lc_12
  simp only [e1, Option.bind_some, e, if_true]
