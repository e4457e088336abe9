/-! ===== land: the reference reads a statement, whole ===== -/
theorem tl_bad (s : Nat → Nat) (L j : Nat) : tl s L j true = (true, j, 0) := by
  unfold tl
  by_cases e4 : L = 104
  · rw [if_pos e4]; rfl
  · rw [if_neg e4]
    by_cases e9 : L = 119
    · rw [if_pos e9]; rfl
    · rw [if_neg e9]
theorem m_rest2 {d z i k : Nat} {b : Nat → Int32} {m : MI} (h : TR d z b m) (q : Q2 (i + 1) false m) (hi : i < 900) (hk : k < 51) (hl : isL (sg z b i) = true) (n12 : sg z b i ≠ 112) : RRX z b k i (nI (sg z b i)) m := by
  have L := isL_t hl
  have L7 : sg z b i < 2 ^ 31 := by omega
  unfold RRX
  unfold M_readRest
  rw [if_neg (show ¬ nI (sg z b i) = 112 from ne_lit (k := 112) L7 (by omega) n12)]
  obtain ⟨m1, u1, u2, u3, u4, u5⟩ := m_digit k h q (show i + 1 < 999 by omega)
  rw [u1]
  simp only [Option.bind_some]
  rw [stA_n hk (by omega)]
  simp only [Option.bind_some]
  -- the second number and the rest, from where they begin
  have goon : ∀ (x1 : Nat) (m2 : MI) (y j : Nat) (β : Bool), ag (pZ k) m m2 → Q2 j β m2 → m2.1 62 16 = m.1 62 16 → m2.1 70 = m.1 70 → m2.1 71 = m.1 71 → m2.1 72 k = nI x1 → j < 950 → ∃ m', (((stA 51 m2 73 (nI k) (nI y)).bind fun m67 => (stA 51 m67 74 (nI k) 0).bind fun m70 => ((if nI (sg z b i) = 104 then ((ldZ m70 62 15).bind fun b92 => if b92 = true then some false else ((M_here m70).bind fun r97 => some (decide (r97 = 108)))) else some false).bind fun c78 => if c78 = true then ((stF m70 62 14 ((m70.1 62 14) + 1)).bind fun m83 => (stA 51 m83 74 (nI k) 1).bind fun m86 => some m86) else (some m70) : Option MI).bind fun m76 => (if nI (sg z b i) = 119 then ((M_take 32 m76).bind fun m108 => (M_readNumber 2 m108).bind fun x : Int32 × MI => (stA 51 x.2 74 (nI k) x.1).bind fun m115 => some m115) else (some m76) : Option MI).bind fun m105 => some m105)) = some m' ∧ ag (pZ k) m m' ∧ Q2 (tl (sg z b) (sg z b i) j β).2.1 (tl (sg z b) (sg z b i) j β).1 m' ∧ m'.1 62 16 = m.1 62 16 ∧ m'.1 70 = m.1 70 ∧ m'.1 71 = m.1 71 ∧ m'.1 72 k = nI x1 ∧ m'.1 73 k = nI y ∧ m'.1 74 k = nI (tl (sg z b) (sg z b i) j β).2.2 := by
    intro x1 m2 y j β g2 q2 k16 k70 k71 k72 hj
    rw [stA_n hk (by omega)]
    simp only [Option.bind_some]
    rw [stA_n hk (by omega)]
    simp only [Option.bind_some]
    have g4 : ag (pZ k) m (si (si m2 73 k (nI y)) 74 k 0) := ag_st (ag_st g2 (by unfold pZ; omega)) (by unfold pZ; omega)
    obtain ⟨m', v1, v2, v3, v4, v5, v6⟩ := m_tail (L := sg z b i) (v := nI (sg z b i)) (h.fr g4) (j := j) (β := β) ⟨by rw [si_ne (by omega), si_ne (by omega)]; exact q2.1, by rw [si_ne (by omega), si_ne (by omega)]; exact q2.2⟩ hj hk rfl (by omega) (by rw [si_at, if_pos rfl])
    refine ⟨m', ?_, ag_tr g4 v2, v3, by rw [v5, si_ne (by omega), si_ne (by omega), k16], by rw [v6 70 (by omega) (by omega), si_ne (by omega), si_ne (by omega), k70], by rw [v6 71 (by omega) (by omega), si_ne (by omega), si_ne (by omega), k71], by rw [v6 72 (by omega) (by omega), si_ne (by omega), si_ne (by omega), k72], by rw [v6 73 (by omega) (by omega), si_ne (by omega), si_at, if_pos rfl], v4⟩
    have as : ∀ (o : Option MI) (B : MI → Option MI), (o.bind fun x => (B x).bind fun y => some y) = o.bind B := fun o B => by
      cases o with
      | none => rfl
      | some u =>
        show (B u).bind (fun y => some y) = B u
        cases B u <;> rfl
    exact (as _ _).trans v1
  have g1 : ∀ x, ag (pZ k) m (si m1 72 k x) := fun x => ag_st u2 (by unfold pZ; omega)
  have f : ∀ x, (si m1 72 k x).1 62 16 = m.1 62 16 ∧ (si m1 72 k x).1 70 = m.1 70 ∧ (si m1 72 k x).1 71 = m.1 71 := fun x => ⟨by rw [si_ne (by omega), u4], by rw [si_ne (by omega), u5 70 (by omega) (by omega)], by rw [si_ne (by omega), u5 71 (by omega) (by omega)]⟩
  simp only [Bool.not_false, Bool.true_and] at u3 ⊢
  by_cases w : dgt (sg z b) (i + 1) = true
  · rw [w] at u3
    rw [w]
    simp only [if_true, Bool.not_true] at u3 ⊢
    have qa : Q2 (i + 2) false (si m1 72 k (nI (sg z b (i + 1) - 48))) := ⟨by rw [si_ne (by omega)]; exact u3.1, by rw [si_ne (by omega)]; exact u3.2⟩
    by_cases e2 : sg z b i = 102
    · have e2' : nI (sg z b i) = 102 := by rw [e2]; rfl
      rw [if_pos e2']
      simp only [Option.bind_some]
      obtain ⟨m', v1, v2, v3, v4, v5, v6, v7, v8, v9⟩ := goon (sg z b (i + 1) - 48) (si m1 72 k (nI (sg z b (i + 1) - 48))) 0 (i + 2) false (g1 _) qa (f _).1 (f _).2.1 (f _).2.2 (by rw [si_at, if_pos rfl]) (by omega)
      have t : tl (sg z b) (sg z b i) (i + 2) false = (false, i + 2, 0) := by
        unfold tl
        rw [if_neg (by omega), if_neg (by omega)]
      rw [t] at v3 v9
      refine ⟨m', i + 2, false, sg z b (i + 1) - 48, 0, 0, v1, v2, v3, v4, v5, v6, fun _ => ⟨v7, by rw [if_neg n12]; exact v8, fun r => by omega, fun r => by omega⟩, ?_, by omega⟩
      unfold pst
      rw [hl, if_neg (by decide), w, if_neg (by decide), if_pos e2]
      rfl
    · have n2' : ¬ nI (sg z b i) = 102 := ne_lit (k := 102) L7 (by omega) e2
      rw [if_neg n2']
      have ps : pst (sg z b) i = ptw (sg z b) i := by
        unfold pst
        rw [hl, if_neg (by decide), w, if_neg (by decide), if_neg e2, if_neg n12]
      rw [ps]
      obtain ⟨m3, w1, w2, w3, w4, w5⟩ := m_digit k (h.fr (g1 (nI (sg z b (i + 1) - 48)))) qa (show i + 2 < 999 by omega)
      rw [w1]
      simp only [Option.bind_some, Bool.not_false, Bool.true_and] at w3 ⊢
      have k72 : m3.1 72 k = nI (sg z b (i + 1) - 48) := by rw [w5 72 (by omega) (by omega), si_at, if_pos rfl]
      have k16 : m3.1 62 16 = m.1 62 16 := by rw [w4]; exact (f _).1
      have k70 : m3.1 70 = m.1 70 := by rw [w5 70 (by omega) (by omega)]; exact (f _).2.1
      have k71 : m3.1 71 = m.1 71 := by rw [w5 71 (by omega) (by omega)]; exact (f _).2.2
      unfold ptw
      by_cases x : dgt (sg z b) (i + 2) = true
      · rw [x] at w3
        rw [x, if_neg (show ¬ true = false by decide)]
        simp only [if_true, Bool.not_true] at w3 ⊢
        obtain ⟨m', v1, v2, v3, v4, v5, v6, v7, v8, v9⟩ := goon (sg z b (i + 1) - 48) m3 (sg z b (i + 2) - 48) (i + 3) false (ag_tr (g1 _) w2) w3 k16 k70 k71 k72 (by omega)
        by_cases e4 : sg z b i = 104
        · rw [if_pos e4]
          by_cases y : sg z b (i + 3) = 108
          · have t : tl (sg z b) (sg z b i) (i + 3) false = (false, i + 4, 1) := by
              unfold tl
              rw [if_pos e4, decide_eq_true y]; rfl
            rw [t] at v3 v9
            rw [if_pos y]
            exact ⟨m', i + 4, false, sg z b (i + 1) - 48, sg z b (i + 2) - 48, 2, v1, v2, v3, v4, v5, v6, fun _ => ⟨v7, by rw [if_neg n12]; exact v8, fun _ => v9, fun r => by omega⟩, rfl, by omega⟩
          · have t : tl (sg z b) (sg z b i) (i + 3) false = (false, i + 3, 0) := by
              unfold tl
              rw [if_pos e4, decide_eq_false y]; rfl
            rw [t] at v3 v9
            rw [if_neg y]
            exact ⟨m', i + 3, false, sg z b (i + 1) - 48, sg z b (i + 2) - 48, 1, v1, v2, v3, v4, v5, v6, fun _ => ⟨v7, by rw [if_neg n12]; exact v8, fun _ => v9, fun r => by omega⟩, rfl, by omega⟩
        · rw [if_neg e4]
          by_cases e9 : sg z b i = 119
          · rw [if_pos e9]
            by_cases y : sg z b (i + 3) = 32
            · rw [if_pos y]
              by_cases r : dgt (sg z b) (i + 4) = true
              · have t : tl (sg z b) (sg z b i) (i + 3) false = (false, (nl (sg z b) 1 (sg z b (i + 4) - 48) (i + 5)).2, (nl (sg z b) 1 (sg z b (i + 4) - 48) (i + 5)).1) := by
                  unfold tl
                  rw [if_neg e4, if_pos e9, decide_eq_true y, Bool.not_false, Bool.true_and, if_pos rfl, if_pos r]
                rw [t] at v3 v9
                rw [if_pos r]
                have nb := nl_b (sg z b) 1 (sg z b (i + 4) - 48) (i + 5) 1 (by
                  have := r
                  unfold dgt at this
                  have := of_decide_eq_true this
                  omega)
                exact ⟨m', (nl (sg z b) 1 (sg z b (i + 4) - 48) (i + 5)).2, false, sg z b (i + 1) - 48, sg z b (i + 2) - 48, (nl (sg z b) 1 (sg z b (i + 4) - 48) (i + 5)).1, v1, v2, v3, v4, v5, v6, fun _ => ⟨v7, by rw [if_neg n12]; exact v8, fun r => by omega, fun _ => v9⟩, rfl, by omega⟩
              · have t : tl (sg z b) (sg z b i) (i + 3) false = (true, i + 4, 0) := by
                  unfold tl
                  rw [if_neg e4, if_pos e9, decide_eq_true y, Bool.not_false, Bool.true_and, if_pos rfl, if_neg r]
                rw [t] at v3 v9
                rw [if_neg r]
                exact ⟨m', i + 4, true, 0, 0, 0, v1, v2, v3, v4, v5, v6, fun r => (by cases r), rfl, by omega⟩
            · have t : tl (sg z b) (sg z b i) (i + 3) false = (true, i + 3, 0) := by
                unfold tl
                rw [if_neg e4, if_pos e9, decide_eq_false y]; rfl
              rw [t] at v3 v9
              rw [if_neg y]
              exact ⟨m', i + 3, true, 0, 0, 0, v1, v2, v3, v4, v5, v6, fun r => (by cases r), rfl, by omega⟩
          · have t : tl (sg z b) (sg z b i) (i + 3) false = (false, i + 3, 0) := by
              unfold tl
              rw [if_neg e4, if_neg e9]
            rw [t] at v3 v9
            rw [if_neg e9]
            exact ⟨m', i + 3, false, sg z b (i + 1) - 48, sg z b (i + 2) - 48, if sg z b i = 99 then 3 else 0, v1, v2, v3, v4, v5, v6, fun _ => ⟨v7, by rw [if_neg n12]; exact v8, fun r => absurd r e4, fun r => absurd r e9⟩, rfl, by omega⟩
      · have x' := Bool.eq_false_iff.mpr x
        rw [x'] at w3
        rw [x', if_pos rfl]
        simp only [Bool.false_eq_true, if_false, Bool.not_false] at w3 ⊢
        obtain ⟨m', v1, v2, v3, v4, v5, v6, v7, v8, v9⟩ := goon (sg z b (i + 1) - 48) m3 0 (i + 2) true (ag_tr (g1 _) w2) w3 k16 k70 k71 k72 (by omega)
        rw [tl_bad] at v3
        exact ⟨m', i + 2, true, 0, 0, 0, v1, v2, v3, v4, v5, v6, fun r => (by cases r), rfl, by omega⟩
  · have w' := Bool.eq_false_iff.mpr w
    rw [w'] at u3
    rw [w']
    simp only [Bool.false_eq_true, if_false, Bool.not_false] at u3 ⊢
    have ps : pst (sg z b) i = (false, i + 1, 0, 0, 0) := by
      unfold pst
      rw [hl, if_neg (by decide), w', if_pos rfl]
    rw [ps]
    have qa : Q2 (i + 1) true (si m1 72 k (nI 0)) := ⟨by rw [si_ne (by omega)]; exact u3.1, by rw [si_ne (by omega)]; exact u3.2⟩
    by_cases e2 : sg z b i = 102
    · have e2' : nI (sg z b i) = 102 := by rw [e2]; rfl
      rw [if_pos e2']
      simp only [Option.bind_some]
      obtain ⟨m', v1, v2, v3, v4, v5, v6, v7, v8, v9⟩ := goon 0 (si m1 72 k (nI 0)) 0 (i + 1) true (g1 _) qa (f _).1 (f _).2.1 (f _).2.2 (by rw [si_at, if_pos rfl]) (by omega)
      rw [tl_bad] at v3
      exact ⟨m', i + 1, true, 0, 0, 0, v1, v2, v3, v4, v5, v6, fun r => (by cases r), rfl, by omega⟩
    · have n2' : ¬ nI (sg z b i) = 102 := ne_lit (k := 102) L7 (by omega) e2
      rw [if_neg n2']
      obtain ⟨m3, w1, w2, w3, w4, w5⟩ := m_digit k (h.fr (g1 (nI 0))) qa (show i + 1 < 999 by omega)
      rw [w1]
      simp only [Option.bind_some, Bool.not_true, Bool.false_and, Bool.false_eq_true, if_false, Bool.not_false] at w3 ⊢
      obtain ⟨m', v1, v2, v3, v4, v5, v6, v7, v8, v9⟩ := goon 0 m3 0 (i + 1) true (ag_tr (g1 _) w2) w3 (by rw [w4]; exact (f _).1) (by rw [w5 70 (by omega) (by omega)]; exact (f _).2.1) (by rw [w5 71 (by omega) (by omega)]; exact (f _).2.2) (by rw [w5 72 (by omega) (by omega), si_at, if_pos rfl]) (by omega)
      rw [tl_bad] at v3
      exact ⟨m', i + 1, true, 0, 0, 0, v1, v2, v3, v4, v5, v6, fun r => (by cases r), rfl, by omega⟩
