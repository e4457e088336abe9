/-! ===== land: both sides, whole ===== -/
theorem tx_of {μ m : MI} {tx z : Nat} {b : Nat → Int32} (e2 : m.1 tx 2 = nI z) (hz : z ≤ 100) (eb : ∀ i, m.1 (tx + 2) i = b i) (hb : ∀ i, i < 100 → -128 ≤ (b i).toInt ∧ (b i).toInt ≤ 127) : TX (sg z b) tx m := fun i hi => by
  refine ⟨_, c_at e2 hz (nI i), ?_⟩
  rw [inR_n (by omega), nI_clamp (by omega), eb]
  unfold sg
  by_cases y : i < z
  · rw [decide_eq_true y, if_pos rfl, if_pos y]
    exact rel_self (hb i (by omega))
  · rw [decide_eq_false y, if_neg (by decide), if_neg y]
    exact ⟨by omega, fun q => absurd q (Nat.lt_irrefl _), fun _ => Or.inl (by decide)⟩
theorem psn_le (s : Nat → Nat) : ∀ k, psn s k ≤ 11 * k
  | 0 => Nat.le_refl _
  | k + 1 => by
    have h1 := psn_le s k
    have h2 := (pst_b s (psn s k)).1
    show (pst s (psn s k)).2.1 ≤ 11 * (k + 1)
    omega
def stm (s : Nat → Nat) (A : LV) (k : Nat) : Option LV := stmt_ A (s (psn s k)) (pst s (psn s k)).2.2.1 (pst s (psn s k)).2.2.2.1 (pst s (psn s k)).2.2.2.2
/-- the land behind k statements -/
def apl (s : Nat → Nat) (A : LV) : Nat → Option LV
  | 0 => some A
  | k + 1 => (apl s A k).bind fun B => stm s B k
theorem apl_s {s : Nat → Nat} {A B : LV} {k : Nat} (h : apl s A k = some B) : apl s A (k + 1) = stm s B k := by
  show (apl s A k).bind _ = _
  rw [h]; rfl
theorem apl_p {s : Nat → Nat} {A C : LV} {k : Nat} (h : apl s A (k + 1) = some C) : ∃ B, apl s A k = some B ∧ stm s B k = some C := by
  have h : (apl s A k).bind (fun B => stm s B k) = some C := h
  cases q : apl s A k
  · rw [q] at h; cases h
  · rw [q] at h; exact ⟨_, rfl, h⟩
theorem apl_le {s : Nat → Nat} {A : LV} {n : Nat} : ∀ {j : Nat} {C : LV}, apl s A (n + j) = some C → ∃ B, apl s A n = some B
  | 0, C, h => ⟨C, h⟩
  | j + 1, C, h => by
    obtain ⟨B, h1, _⟩ := apl_p (k := n + j) h
    exact apl_le h1
theorem apl_wf {s : Nat → Nat} {A : LV} (w : WF A) (co : CO A) : ∀ {k : Nat} {B : LV}, (∀ j, j < k → sok s j = true) → apl s A k = some B → WF B ∧ CO B
  | 0, B, _, h => by
    have h : some A = some B := h
    cases h; exact ⟨w, co⟩
  | k + 1, C, hok, h => by
    obtain ⟨B, h1, h2⟩ := apl_p h
    obtain ⟨w1, c1⟩ := apl_wf w co (fun j hj => hok j (by omega)) h1
    exact stmt_wf w1 c1 ((pst_b s (psn s k)).2 (hok k (by omega))).2 h2
theorem apl_cases (s : Nat → Nat) (A : LV) : ∀ n, (∃ B, apl s A n = some B) ∨ ∃ F B, F < n ∧ apl s A F = some B ∧ stm s B F = none
  | 0 => Or.inl ⟨A, rfl⟩
  | n + 1 => by
    rcases apl_cases s A n with ⟨B, h⟩ | ⟨F, B, h1, h2, h3⟩
    · cases q : stm s B n
      · exact Or.inr ⟨n, B, by omega, h, q⟩
      · exact Or.inl ⟨_, (apl_s h).trans q⟩
    · exact Or.inr ⟨F, B, by omega, h2, h3⟩
theorem c_count {s : Nat → Nat} {tx z K : Nat} {m : MI} (ht : 24 ≤ tx) (hT : TX s tx m) (hz : z ≤ 100) (e2 : m.1 tx 2 = nI z) (hK : K < 35) (h1 : ∀ j, j < K → stq s z j = false) (h2 : stq s z K = true) : ∃ m', LandReader_countStatements tx m = some (if sok s K = true then nI (K + 1) else -1000 - nI (psn s (K + 1)), m') ∧ ag (fun a _ => a = 23) m m' := by
  unfold LandReader_countStatements
  simp only [stF, Option.bind_some]
  have g0 : ag (fun a _ => a = 23) m (si m 23 0 0) := ag_si rfl
  obtain ⟨o, q1, q2⟩ := lp_inv (step := LandReader_countStatements_s1 tx) (s := (nI 0, si m 23 0 0)) (fun k t => t.1 = nI k ∧ t.2.1 23 0 = nI (psn s k) ∧ ag (fun a _ => a = 23) m t.2 ∧ (k ≤ K ∨ sok s K = true)) (fun o => ∃ m', Sum.elim (fun x : Int32 × MI => (some (x.1, x.2) : Option (Int32 × MI))) (fun r => some r) o = some (if sok s K = true then nI (K + 1) else -1000 - nI (psn s (K + 1)), m') ∧ ag (fun a _ => a = 23) m m') (K + 1) (by omega) ⟨rfl, by rw [si_at, if_pos rfl]; rfl, g0, Or.inl (Nat.zero_le _)⟩ (by
      rintro k ⟨i, t⟩ hk ⟨t1, t2, t3, _⟩
      simp only at t1 t2 t3; subst t1
      have pb := psn_b (s := s) (z := z) (k := k) (fun j hj => h1 j (by omega))
      have tz : t.1 tx 2 = nI z := by rw [t3.1 tx 2 (by omega)]; exact e2
      have c : (if nI k = 0 then some true else if t.1 23 0 < t.1 tx 2 then some (decide (nI k < t.1 tx 2)) else some false) = some true := by
        by_cases k0 : k = 0
        · rw [if_pos (show nI k = 0 from by rw [k0]; rfl)]
        · have pz := pb.2 (by omega)
          rw [if_neg (show ¬ nI k = 0 from ne_lit (k := 0) (by omega) (by omega) k0), t2, tz, if_pos (nI_lt pz (by omega)), decide_eq_true (nI_lt (by omega) (by omega))]
      have p9 : psn s k < 900 := by have := psn_le s k; omega
      obtain ⟨t', u1, u2, u3, _⟩ := c_takeStatement (s := s) ht (hT.fr t3 ht) t2 p9
      unfold LandReader_countStatements_s1
      simp only []
      rw [c]
      simp only [Option.bind_some, if_true]
      rw [u1]
      simp only [Option.bind_some]
      cases ok : (pst s (psn s k)).1
      · have kK : k = K := by
          rcases Nat.lt_or_ge k K with y | y
          · have := (stq_f (h1 k y)).1
            have this : (pst s (psn s k)).1 = true := this
            rw [ok] at this; cases this
          · omega
        subst kK
        have sk : sok s k = false := ok
        refine Or.inr ⟨_, by simp only [Bool.false_eq_true, if_false]; rfl, t', ?_, ag_tr t3 u2⟩
        rw [sk, if_neg (by decide), u3]
        rfl
      · refine Or.inl ⟨(nI (k + 1), t'), by simp only [if_true, li_1, nI_add], rfl, u3, ag_tr t3 u2, ?_⟩
        by_cases y : k = K
        · subst y; exact Or.inr ok
        · exact Or.inl (by omega)) (by
      rintro ⟨i, t⟩ ⟨t1, t2, t3, t4⟩
      simp only at t1 t2 t3; subst t1
      have sk : sok s K = true := by
        rcases t4 with q | q
        · omega
        · exact q
      have pz : z ≤ psn s (K + 1) := by
        unfold stq at h2
        rw [sk, Bool.not_true, Bool.false_or, decide_eq_true_eq] at h2
        exact h2
      have tz : t.1 tx 2 = nI z := by rw [t3.1 tx 2 (by omega)]; exact e2
      have p9 := psn_le s (K + 1)
      refine ⟨.inl (nI (K + 1), t), ?_, t, ?_, t3⟩
      · unfold LandReader_countStatements_s1
        simp only []
        rw [if_neg (show ¬ nI (K + 1) = 0 from ne_lit (k := 0) (by omega) (by omega) (by omega)), t2, tz, if_neg (nI_nlt pz (by omega))]
        simp only [Option.bind_some, Bool.false_eq_true, if_false]
      · rw [sk, if_pos rfl]; rfl)
  have q1' : lp (LandReader_countStatements_s1 tx) FUEL (0, si m 23 0 0) = some o := q1
  rw [q1']
  exact q2
def pY (a _j : Nat) : Prop := (8 ≤ a ∧ a ≤ 14) ∨ a = 23
theorem TX.fy {s : Nat → Nat} {tx : Nat} {m m' : MI} (h : TX s tx m) (q : ag pY m m') (ht : 24 ≤ tx) : TX s tx m' := fun i hi => by
  obtain ⟨v, h1, h2⟩ := h i hi
  refine ⟨v, ?_, h2⟩
  rw [← h1]
  have e : ∀ a j, 24 ≤ a → m'.1 a j = m.1 a j := fun a j z => q.1 a j (by unfold pY; omega)
  unfold Shelf_at ldA
  rw [e tx 2 ht, e (tx + 2) (nI i).toNatClampNeg (by omega)]
theorem c_cstep {s : Nat → Nat} {tx k N : Nat} {B : LV} {m : MI} (ht : 24 ≤ tx) (hT : TX s tx m) (e0 : m.1 23 0 = nI (psn s k)) (hk : k < N) (hN : N < 40) (ok : sok s k = true) (h : CR 8 B m) (w : WF B) : ∃ m', LandReader_carryOut_s1 (nI N) tx 8 (nI k, m) = some (if (stm s B k).isSome = true then .inl (nI (k + 1), m') else .inr (.inr (-2000 - nI (psn s k), m'))) ∧ ag pY m m' ∧ m'.1 23 0 = nI (psn s (k + 1)) ∧ ∀ C, stm s B k = some C → CR 8 C m' := by
  have p9 : psn s k < 900 := by have := psn_le s k; omega
  obtain ⟨t, u1, u2, u3, u4⟩ := c_takeStatement (s := s) ht hT e0 p9
  have ok' : (pst s (psn s k)).1 = true := ok
  have ht8 : CR 8 B t := h.tg u2 (fun a j z1 z2 z3 => by omega)
  obtain ⟨t', v1, v2, v3⟩ := c_carryOne ht8 w (u4 ok') ((pst_b s (psn s k)).2 ok').2
  refine ⟨t', ?_, ag_tr (ag_mo u2 (fun a j z => Or.inr z)) (ag_mo v2 (fun a j z => Or.inl z)), ?_, v3⟩
  · unfold LandReader_carryOut_s1
    simp only []
    rw [if_pos (nI_lt hk (by omega)), e0]
    simp only [Option.bind_some]
    rw [u1]
    simp only [Option.bind_some]
    rw [v1]
    simp only [Option.bind_some, li_1, nI_add]
    unfold stm
    cases (stmt_ B (s (psn s k)) (pst s (psn s k)).2.2.1 (pst s (psn s k)).2.2.2.1 (pst s (psn s k)).2.2.2.2).isSome <;> rfl
  · rw [v2.1 23 0 (by unfold p8; omega)]; exact u3
theorem c_carry {s : Nat → Nat} {tx n N : Nat} {A B : LV} {m : MI} (ht : 24 ≤ tx) (hT : TX s tx m) (hN : N < 40) (hn : n ≤ N) (hok : ∀ j, j < N → sok s j = true) (h : CR 8 A m) (w : WF A) (co : CO A) (hB : apl s A n = some B) (he : n = N ∨ stm s B n = none) : ∃ m', LandReader_carryOut 8 tx (nI N) m = some (if n = N then 0 else -2000 - nI (psn s n), m') ∧ ag pY m m' ∧ (n = N → CR 8 B m') := by
  unfold LandReader_carryOut
  simp only [stF, Option.bind_some]
  have g0 : ag pY m (si m 23 0 0) := ag_si (Or.inr rfl)
  obtain ⟨o, q1, q2⟩ := lp_inv (step := LandReader_carryOut_s1 (nI N) tx 8) (s := (nI 0, si m 23 0 0)) (fun k t => t.1 = nI k ∧ t.2.1 23 0 = nI (psn s k) ∧ ag pY m t.2 ∧ ∃ C, apl s A k = some C ∧ CR 8 C t.2) (fun o => ∃ m', Sum.elim (fun x : MI => (some ((0 : Int32), x) : Option (Int32 × MI))) (fun r => some r) o = some (if n = N then 0 else -2000 - nI (psn s n), m') ∧ ag pY m m' ∧ (n = N → CR 8 B m')) n (by omega) ⟨rfl, by rw [si_at, if_pos rfl]; rfl, g0, A, rfl, h.sx (by omega)⟩ (by
      rintro k ⟨i, t⟩ hk ⟨t1, t2, t3, C, t4, t5⟩
      simp only at t1 t2 t3 t5; subst t1
      have wc := (apl_wf w co (fun j hj => hok j (by omega)) t4).1
      obtain ⟨t', u1, u2, u3, u4⟩ := c_cstep (s := s) ht (hT.fy t3 ht) t2 (show k < N by omega) hN (hok k (by omega)) t5 wc
      obtain ⟨D, hD⟩ := apl_le (s := s) (A := A) (n := k + 1) (j := n - (k + 1)) (C := B) (by rw [show k + 1 + (n - (k + 1)) = n by omega]; exact hB)
      have sD : stm s C k = some D := by rw [← apl_s t4]; exact hD
      rw [sD] at u1
      exact Or.inl ⟨_, u1, rfl, u3, ag_tr t3 u2, D, hD, u4 D sD⟩) (by
      rintro ⟨i, t⟩ ⟨t1, t2, t3, C, t4, t5⟩
      simp only at t1 t2 t3 t5; subst t1
      rw [hB] at t4
      cases t4
      by_cases e : n = N
      · subst e
        refine ⟨.inl t, ?_, t, by rw [if_pos rfl]; rfl, t3, fun _ => t5⟩
        unfold LandReader_carryOut_s1
        simp only []
        rw [if_neg (nI_nlt (Nat.le_refl _) (by omega))]
      · have wc := (apl_wf w co (fun j hj => hok j (by omega)) hB).1
        obtain ⟨t', u1, u2, u3, u4⟩ := c_cstep (s := s) ht (hT.fy t3 ht) t2 (show n < N by omega) hN (hok n (by omega)) t5 wc
        have sn : stm s B n = none := by
          rcases he with q | q
          · exact absurd q e
          · exact q
        rw [sn] at u1
        exact ⟨_, u1, t', by rw [if_neg e]; rfl, ag_tr t3 u2, fun q => absurd q e⟩)
  have q1' : lp (LandReader_carryOut_s1 (nI N) tx 8) FUEL (0, si m 23 0 0) = some o := q1
  rw [q1']
  exact q2
theorem li_n1000 : (-1000 : Int32) = iI (-((1000 : Nat) : Int)) := by decide
theorem li_n2000 : (-2000 : Int32) = iI (-((2000 : Nat) : Int)) := by decide
theorem flt_neg {c p : Nat} (hc : c ≤ 5000) (h0 : 0 < c) (hp : p ≤ 5000) : iI (-(c : Int)) - nI p < 0 := by
  rw [← iI_nat, iI_sub, show (0 : Int32) = iI 0 from rfl, iI_ltI (by omega) (by omega) (by omega) (by omega)]
  omega
theorem lt_1000 {p : Nat} (hp : p ≤ 5000) : (-1000 : Int32) - nI p < 0 := by
  rw [li_n1000]
  exact flt_neg (by omega) (by omega) hp
theorem lt_2000 {p : Nat} (hp : p ≤ 5000) : (-2000 : Int32) - nI p < 0 := by
  rw [li_n2000]
  exact flt_neg (by omega) (by omega) hp
/-- what the class's call gives: a fault of the signs, a fault of what is told, or the land behind all -/
theorem N_land_in {tx z K : Nat} {b : Nat → Int32} {A : LV} {μ : MI} (ht : 24 ≤ tx) (hT : TX (sg z b) tx μ) (hz : z ≤ 100) (e2 : μ.1 tx 2 = nI z) (h : CR 1 A μ) (w : WF A) (co : CO A) (hK : K < 35) (h1 : ∀ j, j < K → stq (sg z b) z j = false) (h2 : stq (sg z b) z K = true) : ∃ r m, ((LandReader_countStatements tx μ).bind fun x : Int32 × MI => if x.1 < 0 then (some (x.1, x.2) : Option (Int32 × MI)) else ((Land_copyFrom 8 1 x.2).bind fun m19 => (LandReader_carryOut 8 tx x.1 m19).bind fun y : Int32 × MI => if y.1 < 0 then some (y.1, y.2) else ((Land_copyFrom 1 8 y.2).bind fun m28 => some (x.1, m28)))) = some (r, m) ∧ ((sok (sg z b) K = false ∧ r = -1000 - nI (psn (sg z b) (K + 1)) ∧ ag pC μ m) ∨ (sok (sg z b) K = true ∧ ∃ n B, n ≤ K + 1 ∧ apl (sg z b) A n = some B ∧ ((n = K + 1 ∧ r = nI (K + 1) ∧ ag (fun a j => pC a j ∨ (1 ≤ a ∧ a ≤ 7)) μ m ∧ CR 1 B m) ∨ (n ≠ K + 1 ∧ stm (sg z b) B n = none ∧ r = -2000 - nI (psn (sg z b) n) ∧ ag pC μ m)))) := by
  obtain ⟨m1, u1, u2⟩ := c_count ht hT hz e2 hK h1 h2
  have g1 : ag pC μ m1 := ag_mo u2 (fun a j q => by unfold pC; omega)
  have p9 := psn_le (sg z b) (K + 1)
  cases ok : sok (sg z b) K
  · rw [ok, if_neg (show ¬ false = true by decide)] at u1
    have lt : (-1000 : Int32) - nI (psn (sg z b) (K + 1)) < 0 := lt_1000 (by omega)
    obtain ⟨R, hR⟩ : ∃ R, (-1000 : Int32) - nI (psn (sg z b) (K + 1)) = R := ⟨_, rfl⟩
    rw [hR] at u1 lt
    refine ⟨R, m1, ?_, Or.inl ⟨rfl, hR.symm, g1⟩⟩
    rw [u1]
    simp only [Option.bind_some]
    rw [if_pos lt]
  · rw [ok, if_pos rfl] at u1
    have ge : ¬ nI (K + 1) < 0 := nI_pos (by omega)
    obtain ⟨R, hR⟩ : ∃ R, nI (K + 1) = R := ⟨_, rfl⟩
    rw [hR] at u1 ge
    have k1 : CR 1 A m1 := h.tg u2 (fun a j z1 z2 z3 => by omega)
    obtain ⟨m2, v1, v2, v3⟩ := c_copyFrom (t := 8) (o := 1) k1 w (by omega)
    have g2 : ag pC μ m2 := ag_tr g1 (ag_mo v3 (fun a j q => by unfold pC; omega))
    have T2 : TX (sg z b) tx m2 := (hT.fr u2 ht).fy (ag_mo v3 (fun a j q => Or.inl (by omega))) ht
    have hok : ∀ j, j < K + 1 → sok (sg z b) j = true := fun j hj => by
      by_cases e : j = K
      · rw [e]; exact ok
      · exact (stq_f (h1 j (by omega))).1
    rcases apl_cases (sg z b) A (K + 1) with ⟨B, hB⟩ | ⟨F, B, hF, hB, hS⟩
    · obtain ⟨m3, w1, w2, w3⟩ := c_carry ht T2 (show K + 1 < 40 by omega) (Nat.le_refl _) hok v2 w co hB (Or.inl rfl)
      rw [if_pos rfl, hR] at w1
      have wB := (apl_wf w co hok hB).1
      obtain ⟨m4, x1, x2, x3⟩ := c_copyFrom (t := 1) (o := 8) (w3 rfl) wB (by omega)
      refine ⟨R, m4, ?_, Or.inr ⟨rfl, K + 1, B, Nat.le_refl _, hB, Or.inl ⟨rfl, hR.symm, ?_, x2⟩⟩⟩
      · rw [u1]
        simp only [Option.bind_some]
        rw [if_neg ge, v1]
        simp only [Option.bind_some]
        rw [w1]
        simp only [Option.bind_some]
        rw [if_neg (show ¬ (0 : Int32) < 0 by decide), x1]
        rfl
      exact ag_tr (ag_mo (ag_tr g2 (ag_mo w2 (fun a j q => by unfold pY at q; unfold pC; omega))) (fun a j q => Or.inl q)) (ag_mo x3 (fun a j q => Or.inr q))
    · obtain ⟨m3, w1, w2, w3⟩ := c_carry ht T2 (show K + 1 < 40 by omega) (show F ≤ K + 1 by omega) hok v2 w co hB (Or.inr hS)
      have pF := psn_le (sg z b) F
      rw [if_neg (show ¬ F = K + 1 by omega), hR] at w1
      have lt : (-2000 : Int32) - nI (psn (sg z b) F) < 0 := lt_2000 (by omega)
      obtain ⟨Q, hQ⟩ : ∃ Q, (-2000 : Int32) - nI (psn (sg z b) F) = Q := ⟨_, rfl⟩
      rw [hQ] at w1 lt
      refine ⟨Q, m3, ?_, Or.inr ⟨rfl, F, B, by omega, hB, Or.inr ⟨by omega, hS, hQ.symm, ag_tr g2 (ag_mo w2 (fun a j q => by unfold pY at q; unfold pC; omega))⟩⟩⟩
      rw [u1]
      simp only [Option.bind_some]
      rw [if_neg ge, v1]
      simp only [Option.bind_some]
      rw [w1]
      simp only [Option.bind_some]
      rw [if_pos lt]
