/-! ===== land: the reference's call, and both ===== -/
def pV (a j : Nat) : Prop := (a = 62 ∧ (j = 14 ∨ j = 15 ∨ j = 16)) ∨ (70 ≤ a ∧ a ≤ 74)
theorem TR.fv {d z : Nat} {b : Nat → Int32} {m m' : MI} (h : TR d z b m) (g : ag pV m m') : TR d z b m' := by
  obtain ⟨h1, h2, h3, h4, h5, h6⟩ := h
  refine ⟨h1, h2, ?_, ?_, fun i hi => by rw [g.2]; exact h5 i hi, h6⟩
  · rw [g.1 62 12 (by unfold pV; omega)]; exact h3
  · rw [g.1 62 13 (by unfold pV; omega)]; exact h4
/-- the statement at j as the reference keeps it -/
def RK (s : Nat → Nat) (j : Nat) (m : MI) : Prop := m.1 70 j = nI (psn s j) ∧ RF j (s (psn s j)) (pst s (psn s j)).2.2.1 (pst s (psn s j)).2.2.2.1 (pst s (psn s j)).2.2.2.2 m
theorem RK.fr {s : Nat → Nat} {j : Nat} {m m' : MI} (h : RK s j m) (q : ∀ a, 70 ≤ a → a ≤ 74 → m'.1 a j = m.1 a j) : RK s j m' := by
  unfold RK RF
  rw [q 70 (by omega) (by omega), q 71 (by omega) (by omega), q 72 (by omega) (by omega), q 73 (by omega) (by omega), q 74 (by omega) (by omega)]
  exact h
theorem m_readAll {d z K : Nat} {b : Nat → Int32} {m : MI} (h : TR d z b m) (q : Q2 0 false m) (k16 : m.1 62 16 = nI 0) (hK : K < 35) (h1 : ∀ j, j < K → stq (sg z b) z j = false) (h2 : stq (sg z b) z K = true) : ∃ m', lp M_land_s1 FUEL m = some m' ∧ ag pV m m' ∧ Q2 (psn (sg z b) (K + 1)) (!(sok (sg z b) K)) m' ∧ m'.1 62 16 = nI (K + 1) ∧ (sok (sg z b) K = true → ∀ j, j < K + 1 → RK (sg z b) j m') := by
  have hz := h.2.1
  obtain ⟨o, q1, q2, q3, q4, q5⟩ := lp_inv (step := M_land_s1) (s := m) (fun k t => t.1 62 16 = nI k ∧ Q2 (psn (sg z b) k) (if k = K + 1 then !(sok (sg z b) K) else false) t ∧ ag pV m t ∧ ∀ j, j < k → sok (sg z b) j = true → RK (sg z b) j t) (fun o => ag pV m o ∧ Q2 (psn (sg z b) (K + 1)) (!(sok (sg z b) K)) o ∧ o.1 62 16 = nI (K + 1) ∧ (sok (sg z b) K = true → ∀ j, j < K + 1 → RK (sg z b) j o)) (K + 1) (by omega) ⟨k16, by rw [if_neg (by omega)]; exact q, ag_rf _ _, fun j hj => absurd hj (Nat.not_lt_zero _)⟩ (by
      rintro k t hk ⟨t1, t2, t3, t4⟩
      rw [if_neg (show ¬ k = K + 1 by omega)] at t2
      have pb := psn_b (s := sg z b) (z := z) (k := k) (fun j hj => h1 j (by omega))
      have p9 : psn (sg z b) k < 900 := by have := psn_le (sg z b) k; omega
      have ht := h.fv t3
      have c : ((ldZ t 62 15).bind fun b45 => if b45 = true then some false else (if t.1 62 16 = 0 then some true else some (decide (t.1 62 14 < t.1 62 13)))) = some true := by
        rw [ldZ_b t2.2, t1, t2.1, ht.2.2.2.1]
        simp only [Option.bind_some, Bool.false_eq_true, if_false]
        by_cases k0 : k = 0
        · rw [if_pos (show nI k = 0 from by rw [k0]; rfl)]
        · have pz := pb.2 (by omega)
          rw [if_neg (show ¬ nI k = 0 from ne_lit (k := 0) (by omega) (by omega) k0), decide_eq_true (nI_lt pz (by omega))]
      obtain ⟨t', u1, u2, u3, u4, u5⟩ := m_readStatement (k := k) ht t2 t1 p9 (by omega)
      refine Or.inl ⟨t', ?_, u4, ?_, ag_tr t3 (ag_mo u2 (fun a j y => by unfold pZ at y; unfold pV; omega)), fun j hj ok => ?_⟩
      · unfold M_land_s1
        rw [c]
        simp only [Option.bind_some, if_true]
        rw [u1]
        rfl
      · have u3 : Q2 (psn (sg z b) (k + 1)) (!(sok (sg z b) k)) t' := u3
        by_cases e : k = K
        · rw [if_pos (by omega), ← e]; exact u3
        · rw [if_neg (by omega)]
          have := (stq_f (h1 k (by omega))).1
          rw [this] at u3
          exact u3
      · by_cases e : j = k
        · rw [e] at ok ⊢
          exact u5 ok
        · exact (t4 j (by omega) ok).fr fun a a1 a2 => u2.1 a j (by unfold pZ; omega)) (by
      rintro t ⟨t1, t2, t3, t4⟩
      rw [if_pos rfl] at t2
      have ht := h.fv t3
      have p9 := psn_le (sg z b) (K + 1)
      refine ⟨t, ?_, t3, t2, t1, fun ok j hj => t4 j hj ?_⟩
      · have c : ((ldZ t 62 15).bind fun b45 => if b45 = true then some false else (if t.1 62 16 = 0 then some true else some (decide (t.1 62 14 < t.1 62 13)))) = some false := by
          rw [ldZ_b t2.2]
          cases ok : sok (sg z b) K
          · rfl
          · have pz : z ≤ psn (sg z b) (K + 1) := by
              unfold stq at h2
              rw [ok, Bool.not_true, Bool.false_or, decide_eq_true_eq] at h2
              exact h2
            rw [t1, t2.1, ht.2.2.2.1]
            simp only [Option.bind_some, Bool.not_true, Bool.false_eq_true, if_false]
            rw [if_neg (show ¬ nI (K + 1) = 0 from ne_lit (k := 0) (by omega) (by omega) (by omega)), decide_eq_false (nI_nlt pz (by omega))]
        unfold M_land_s1
        rw [c]
        simp only [Option.bind_some, Bool.false_eq_true, if_false]
      · by_cases e : j = K
        · rw [e]; exact ok
        · exact (stq_f (h1 j (by omega))).1)
  exact ⟨o, q1, q2, q3, q4, q5⟩
/-- where the reference's call may write -/
def pBr (a j : Nat) : Prop := pM a j ∨ (62 ≤ a ∧ a ≤ 68 ∧ ¬ (a = 62 ∧ j = 37))
theorem CY.ag {b : Bool} {μ m : MI} (h : CY 84 b μ 76 m) : ag pBr μ m :=
  ⟨fun a j z => h.out (by rintro rfl; exact z (Or.inl (Or.inr (Or.inr rfl)))) (by unfold pBr pM at z; omega), h.2.2.1⟩
theorem ag_rB {m m' : MI} (h : ag pRr m m') : ag pBr m m' := ag_mo h fun a j q => by unfold pRr at q; unfold pBr; omega
theorem m_mstep {s : Nat → Nat} {k K : Nat} {C : LV} {m : MI} (h : MR C m) (w : WF C) (hk : k < K + 1) (hK : K < 35) (ok : sok s k = true) (k16 : m.1 62 16 = nI (K + 1)) (rk : RK s k m) : ∃ m', M_comes (nI k) m = some ((stm s C k).isSome, m') ∧ ag pRr m m' ∧ (∀ x, x < 3 → 0 ≤ (m.1 65 x).toInt → 0 ≤ (m'.1 65 x).toInt) ∧ (∀ B, stm s C k = some B → MR B m') ∧ m'.1 62 16 = nI (K + 1) ∧ ∀ j, RK s j m → RK s j m' := by
  obtain ⟨m', u1, u2, u3, u4⟩ := m_comes h w (show k < 51 by omega) rk.2 ((pst_b s (psn s k)).2 ok).2
  refine ⟨m', u1, u2, u3, u4, ?_, fun j r => r.fr fun a a1 a2 => u2.1 a j (by unfold pRr; omega)⟩
  rw [u2.1 62 16 (by unfold pRr; omega)]; exact k16
theorem m_carryAll {s : Nat → Nat} {n K : Nat} {A B : LV} {m : MI} (hK : K < 35) (hn : n ≤ K + 1) (hok : ∀ j, j < K + 1 → sok s j = true) (h : MR A m) (hi : IR 84 A m) (w : WF A) (co : CO A) (pu : ∀ x, x < 3 → 0 ≤ (m.1 65 x).toInt) (pk : ∀ x, x < 3 → 0 ≤ (m.1 84 (52 + 2 * x)).toInt) (k16 : m.1 62 16 = nI (K + 1)) (rk : ∀ j, j < K + 1 → RK s j m) (hB : apl s A n = some B) (he : n = K + 1 ∨ stm s B n = none) : ∃ m', ((lp (M_land_s2) FUEL (0, m)).bind fun o61 => Sum.elim (fun m67 : MI => (some ((m67.1 62 16), m67) : Option (Int32 × MI))) (fun r86 => some r86) o61) = some (if n = K + 1 then nI (K + 1) else -2000 - nI (psn s n), m') ∧ ag pBr m m' ∧ MR (if n = K + 1 then B else A) m' ∧ ∀ x, x < 3 → 0 ≤ (m'.1 65 x).toInt := by
  obtain ⟨o, q1, q2⟩ := lp_inv (step := M_land_s2) (s := (nI 0, m)) (fun k t => t.1 = nI k ∧ ag pRr m t.2 ∧ (∀ x, x < 3 → 0 ≤ (t.2.1 65 x).toInt) ∧ t.2.1 62 16 = nI (K + 1) ∧ (∀ j, j < K + 1 → RK s j t.2) ∧ ∃ C, apl s A k = some C ∧ MR C t.2) (fun o => ∃ m', Sum.elim (fun m67 : MI => (some ((m67.1 62 16), m67) : Option (Int32 × MI))) (fun r86 => some r86) o = some (if n = K + 1 then nI (K + 1) else -2000 - nI (psn s n), m') ∧ ag pBr m m' ∧ MR (if n = K + 1 then B else A) m' ∧ ∀ x, x < 3 → 0 ≤ (m'.1 65 x).toInt) n (by omega) ⟨rfl, ag_rf _ _, pu, k16, rk, A, rfl, h⟩ (by
      rintro k ⟨i, t⟩ hk ⟨t1, t2, t3, t4, t5, C, t6, t7⟩
      simp only at t1 t2 t3 t4 t5 t7; subst t1
      have wc := (apl_wf w co (fun j hj => hok j (by omega)) t6).1
      obtain ⟨t', u1, u2, u3, u4, u5, u6⟩ := m_mstep (K := K) t7 wc (show k < K + 1 by omega) hK (hok k (by omega)) t4 (t5 k (by omega))
      obtain ⟨D, hD⟩ := apl_le (s := s) (A := A) (n := k + 1) (j := n - (k + 1)) (C := B) (by rw [show k + 1 + (n - (k + 1)) = n by omega]; exact hB)
      have sD : stm s C k = some D := by rw [← apl_s t6]; exact hD
      rw [sD] at u1
      refine Or.inl ⟨(nI (k + 1), t'), ?_, rfl, ag_tr t2 u2, fun x hx => u3 x hx (t3 x hx), u5, fun j hj => u6 j (t5 j hj), D, hD, u4 D sD⟩
      unfold M_land_s2
      simp only []
      rw [t4, if_pos (nI_lt (by omega) (by omega)), u1]
      simp only [Option.bind_some, Option.isSome_some, if_true, li_1, nI_add]) (by
      rintro ⟨i, t⟩ ⟨t1, t2, t3, t4, t5, C, t6, t7⟩
      simp only at t1 t2 t3 t4 t5 t7; subst t1
      rw [hB] at t6
      cases t6
      by_cases e : n = K + 1
      · refine ⟨.inl t, ?_, t, ?_, ag_rB t2, by rw [if_pos e]; exact t7, t3⟩
        · unfold M_land_s2
          simp only []
          rw [t4, e, if_neg (nI_nlt (Nat.le_refl _) (by omega))]
        · rw [if_pos e]
          show some (t.1 62 16, t) = _
          rw [t4]
      · have wc := (apl_wf w co (fun j hj => hok j (by omega)) hB).1
        obtain ⟨t', u1, u2, u3, u4, u5, u6⟩ := m_mstep (K := K) t7 wc (show n < K + 1 by omega) hK (hok n (by omega)) t4 (t5 n (by omega))
        have sn : stm s B n = none := by
          rcases he with y | y
          · exact absurd y e
          · exact y
        rw [sn] at u1
        have g2 : ag pRr m t' := ag_tr t2 u2
        obtain ⟨v, v1, v2⟩ := m_carryTo (c := 84) false t' (by omega)
        have i84 : IR 84 A t' := hi.fr (funext fun j => g2.1 84 j (by unfold pRr; omega))
        obtain ⟨w1, _⟩ := v2.giveb i84 w
        have k70 : v.1 70 n = nI (psn s n) := by
          rw [v2.out (by omega) (by omega)]
          exact (u6 n (t5 n (by omega))).1
        refine ⟨.inr (-2000 - nI (psn s n), v), ?_, v, by rw [if_neg e]; rfl, ag_tr (ag_rB g2) v2.ag, by rw [if_neg e]; exact w1, fun x hx => ?_⟩
        · obtain ⟨P, hP⟩ : ∃ P, nI (psn s n) = P := ⟨_, rfl⟩
          rw [hP] at k70 ⊢
          unfold M_land_s2
          simp only []
          rw [t4, if_pos (nI_lt (by omega) (by omega)), u1]
          simp only [Option.bind_some, Option.isSome_none, Bool.false_eq_true, if_false]
          rw [v1]
          simp only [Option.bind_some]
          rw [ldA_n (show n < 51 by omega) (by omega), k70]
          rfl
        · have := (v2.at (k := 52 + 2 * x) (by omega) (cel_co x hx).1).1
          rw [this, if_neg (by decide), g2.1 84 _ (by unfold pRr; omega)]
          exact pk x hx)
  have q1' : lp (M_land_s2) FUEL (0, m) = some o := q1
  rw [q1']
  exact q2
theorem M_land_in {d z K : Nat} {b : Nat → Int32} {A : LV} {μ : MI} (hd : d < 8) (h : MR A μ) (w : WF A) (co : CO A) (hz : z ≤ 100) (e9 : μ.1 89 d = nI z) (hx : ∀ i, i < 100 → μ.2 90 (100 * d + i) = (b i).toInt64) (hb : ∀ i, i < 100 → -128 ≤ (b i).toInt ∧ (b i).toInt ≤ 127) (wb : M_wrongBytes (nI d) (si μ 62 10 (nI 0)) = some 0) (pu : ∀ x, x < 3 → 0 ≤ (μ.1 65 x).toInt) (hK : K < 35) (h1 : ∀ j, j < K → stq (sg z b) z j = false) (h2 : stq (sg z b) z K = true) : (sok (sg z b) K = false → ∃ m, M_land (nI d) μ = some (-1000 - nI (psn (sg z b) (K + 1)), m) ∧ ag pM μ m) ∧ (sok (sg z b) K = true → ∀ n B, n ≤ K + 1 → apl (sg z b) A n = some B → (n = K + 1 ∨ stm (sg z b) B n = none) → ∃ m, M_land (nI d) μ = some (if n = K + 1 then nI (K + 1) else -2000 - nI (psn (sg z b) n), m) ∧ ag pBr μ m ∧ MR (if n = K + 1 then B else A) m ∧ ∀ x, x < 3 → 0 ≤ (m.1 65 x).toInt) := by
  generalize hm : si (si (si (si (si (si μ 62 10 (nI 0)) 62 12 (nI (100 * d))) 62 13 (nI z)) 62 14 (nI 0)) 62 15 (bI false)) 62 16 (nI 0) = m0
  have g0 : ag pM μ m0 := by
    rw [← hm]
    exact ag_st (ag_st (ag_st (ag_st (ag_st (ag_62 (by omega)) (Or.inl ⟨rfl, by omega⟩)) (Or.inl ⟨rfl, by omega⟩)) (Or.inl ⟨rfl, by omega⟩)) (Or.inl ⟨rfl, by omega⟩)) (Or.inl ⟨rfl, by omega⟩)
  have tr : TR d z b m0 := by
    refine ⟨hd, hz, ?_, ?_, fun i hi => by rw [g0.2]; exact hx i hi, hb⟩
    · rw [← hm, si_at, if_neg (by omega), si_at, if_neg (by omega), si_at, if_neg (by omega), si_at, if_neg (by omega), si_at, if_pos rfl]
    · rw [← hm, si_at, if_neg (by omega), si_at, if_neg (by omega), si_at, if_neg (by omega), si_at, if_pos rfl]
  have q0 : Q2 0 false m0 := by
    constructor
    · rw [← hm, si_at, if_neg (by omega), si_at, if_neg (by omega), si_at, if_pos rfl]
    · rw [← hm, si_at, if_neg (by omega), si_at, if_pos rfl]
  have k16 : m0.1 62 16 = nI 0 := by rw [← hm, si_at, if_pos rfl]
  obtain ⟨m1, u1, u2, u3, u4, u5⟩ := m_readAll tr q0 k16 hK h1 h2
  have g1 : ag pM μ m1 := ag_tr g0 (ag_mo u2 (fun a j q => by unfold pV at q; unfold pM; omega))
  have pre : M_land (nI d) μ = (ldZ m1 62 15).bind fun b53 => if b53 = true then (some (((-1000) - (m1.1 62 14)), m1) : Option (Int32 × MI)) else ((M_carryTo 84 true m1).bind fun m58 => (lp (M_land_s2) FUEL (0, m58)).bind fun o61 => Sum.elim (fun m67 : MI => some ((m67.1 62 16), m67)) (fun r86 => some r86) o61) := by
    unfold M_land
    rw [thr0]
    simp only [Option.bind_some]
    rw [wb]
    simp only [Option.bind_some]
    rw [if_neg (show ¬ (0 : Int32) < 0 by decide)]
    simp only [stF, Option.bind_some]
    rw [li_100, pk_mul, ldA_n hd (by omega), si_ne (by omega), si_ne (by omega), e9]
    simp only [Option.bind_some]
    have zz : ∀ u : MI, stZ u 62 15 false = some (si u 62 15 (bI false)) := fun u => rfl
    rw [zz]
    simp only [Option.bind_some]
    have hm' : si (si (si (si (si (si μ 62 10 (nI 0)) 62 12 (nI (100 * d))) 62 13 (nI z)) 62 14 0) 62 15 (bI false)) 62 16 0 = m0 := hm
    rw [hm', u1]
    simp only [Option.bind_some]
  rw [pre, ldZ_b u3.2]
  constructor
  · intro ok
    refine ⟨m1, ?_, g1⟩
    rw [ok, u3.1]
    rfl
  · intro ok n B hn hB he
    rw [ok]
    simp only [Option.bind_some, Bool.not_true, Bool.false_eq_true, if_false]
    have hm1 : MR A m1 := h.agM g1
    obtain ⟨m2, v1, v2⟩ := m_carryTo (c := 84) true m1 (by omega)
    obtain ⟨w1, w2⟩ := v2.take hm1 w
    have a65 : ∀ x, x < 3 → m2.1 65 x = μ.1 65 x ∧ m2.1 84 (52 + 2 * x) = μ.1 65 x := fun x hx => by
      have := v2.at (k := 52 + 2 * x) (by omega) (cel_co x hx).1
      rw [if_pos rfl, g1.1 65 x (by unfold pM; omega)] at this
      exact this
    have b16 : m2.1 62 16 = nI (K + 1) := by rw [v2.out (by omega) (by omega)]; exact u4
    have hok : ∀ j, j < K + 1 → sok (sg z b) j = true := fun j hj => by
      by_cases e : j = K
      · rw [e]; exact ok
      · exact (stq_f (h1 j (by omega))).1
    obtain ⟨m3, x1, x2, x3, x4⟩ := m_carryAll (s := sg z b) hK hn hok w1 w2 w co (fun x hx => by rw [(a65 x hx).1]; exact pu x hx) (fun x hx => by rw [(a65 x hx).2]; exact pu x hx) b16 (fun j hj => (u5 ok j hj).fr fun a a1 a2 => v2.out (by omega) (by omega)) hB he
    refine ⟨m3, ?_, ag_tr (ag_mo g1 (fun a j q => Or.inl q)) (ag_tr v2.ag x2), x3, x4⟩
    rw [v1]
    exact x1
theorem L_0 {μ : MI} (h : INV μ) (x : Int32) : ∃ μ', Lc_0 x μ = some μ' ∧ INV μ' := by
  have g0 : INV (si μ 62 10 (nI 0)) := Lc_same h (ag_rf _ _) (ag_62 (by omega))
  unfold Lc_0
  have r85 : (si μ 62 10 (nI 0)).1 85 = μ.1 85 := si_ne (by omega)
  have r88 : (si μ 62 10 (nI 0)).1 88 = μ.1 88 := si_ne (by omega)
  rcases bytes_cases h x with ⟨b1, b2⟩ | ⟨d, r, hd, rfl, hr, b1, b2, b3⟩ | ⟨d, z, hd, rfl, hz, b1, b2, b3, b4, b5, b6, b7⟩
  · unfold N_land M_land
    rw [b1]
    simp only [thr0, onN_0, Option.bind_some, b2, show ((-1 : Int32) < 0) = True from by decide, if_true]
    exact ⟨_, rfl, g0⟩
  · unfold N_land M_land
    rw [b1]
    have r0 : r ≠ 0 := fun e => by rw [e] at hr; exact absurd hr (by decide)
    simp only [thr0, onN_1, b2, Option.bind_some, if_pos r0, b3 _ (congrFun r85 d) (congrFun r88 d), if_pos hr, if_true]
    exact ⟨_, rfl, g0⟩
  · obtain ⟨A, w, co, k1, k2⟩ := h.1
    obtain ⟨bs, hbs⟩ : ∃ bs, μ.1 (38 + 3 * d + 2) = bs := ⟨_, rfl⟩
    rw [hbs] at b6 b7
    obtain ⟨K, hK, q1, q2⟩ := rs_ex (sg z bs) hz
    have hT : TX (sg z bs) (38 + 3 * d) μ := tx_of (μ := μ) b4 hz (fun i => by rw [hbs]) b7
    obtain ⟨r, m, e1, e2⟩ := N_land_in (show 24 ≤ 38 + 3 * d by omega) hT hz b4 k1 w co hK q1 q2
    have nv : N_land (nI d) μ = some (r, m) := by
      unfold N_land
      rw [b1, onN_1, b2]
      simp only [Option.bind_some]
      rw [if_neg (show ¬ ((0 : Int32) ≠ 0) from fun e => e rfl)]
      exact e1
    have fin : (∃ m', M_land (nI d) m = some (r, m') ∧ INV m') → ∃ μ', ((N_land (nI d) μ).bind fun x : Int32 × MI => (M_land (nI d) x.2).bind fun y : Int32 × MI => if x.1 = y.1 then some y.2 else none) = some μ' ∧ INV μ' := by
      rintro ⟨m', z1, z2⟩
      refine ⟨m', ?_, z2⟩
      rw [nv]
      simp only [Option.bind_some]
      rw [z1]
      simp only [Option.bind_some, if_true]
    apply fin
    have inN : ∀ a j, ¬ (pC a j ∨ (1 ≤ a ∧ a ≤ 7)) → ag (fun a j => pC a j ∨ (1 ≤ a ∧ a ≤ 7)) μ m → m.1 a j = μ.1 a j := fun a j q g => g.1 a j q
    have gN : ag (fun a j => pC a j ∨ (1 ≤ a ∧ a ≤ 7)) μ m := by
      rcases e2 with ⟨_, _, y⟩ | ⟨_, n, B, _, _, ⟨_, _, y, _⟩ | ⟨_, _, _, y⟩⟩
      · exact ag_mo y (fun a j q => Or.inl q)
      · exact y
      · exact ag_mo y (fun a j q => Or.inl q)
    have c : ∀ a j, 38 ≤ a → m.1 a j = μ.1 a j := fun a j q => gN.1 a j (by unfold pC; omega)
    have k2m : MR A m := k2.tg gN (fun a j q => Or.inr (by unfold pC at q; omega))
    have pu : ∀ x, x < 3 → 0 ≤ (m.1 65 x).toInt := fun x hx => by rw [c _ _ (by omega)]; exact h.2.1.1.1 x hx
    obtain ⟨M1, M2⟩ := M_land_in (b := bs) hd k2m w co hz ((c _ _ (by omega)).trans b5) (fun i hi => by rw [gN.2]; exact b6 i hi) b7 (b3 _ (by rw [si_ne (by omega)]; exact c _ _ (by omega)) (by rw [si_ne (by omega)]; exact c _ _ (by omega))) pu hK q1 q2
    rcases e2 with ⟨ok, er, y⟩ | ⟨ok, n, B, hn, hB, ⟨en, er, y, yB⟩ | ⟨en, hS, er, y⟩⟩
    · obtain ⟨m', z1, z2⟩ := M1 ok
      exact ⟨m', by rw [er]; exact z1, Lc_same h y z2⟩
    · obtain ⟨m', z1, z2, z3, z4⟩ := M2 ok n B hn hB (Or.inl en)
      rw [if_pos en] at z1 z3
      have hok : ∀ j, j < n → sok (sg z bs) j = true := fun j hj => by
        by_cases e : j = K
        · rw [e]; exact ok
        · exact (stq_f (q1 j (by omega))).1
      obtain ⟨wB, cB⟩ := apl_wf w co hok hB
      refine ⟨m', by rw [er]; exact z1, h.land (ag_tr (ag_mo y (fun a j q => ?_)) (ag_mo z2 (fun a j q => ?_))) wB cB ?_ z3 z4⟩
      · rcases q with q | q
        · exact Or.inl q
        · exact Or.inr (Or.inr (Or.inl q))
      · unfold pBr at q
        rcases q with q | q
        · exact Or.inr (Or.inl q)
        · exact Or.inr (Or.inr (Or.inr q))
      · exact yB.tg z2 (fun a j a1 a2 q => by unfold pBr pM at q; omega)
    · obtain ⟨m', z1, z2, z3, z4⟩ := M2 ok n B hn hB (Or.inr hS)
      rw [if_neg en] at z1 z3
      refine ⟨m', by rw [er]; exact z1, h.land (ag_tr (ag_mo y (fun a j q => Or.inl q)) (ag_mo z2 (fun a j q => ?_))) w co ?_ z3 z4⟩
      · unfold pBr at q
        rcases q with q | q
        · exact Or.inr (Or.inl q)
        · exact Or.inr (Or.inr (Or.inr q))
      · exact (k1.tg y (fun a j a1 a2 q => by unfold pC at q; omega)).tg z2 (fun a j a1 a2 q => by unfold pBr pM at q; omega)
