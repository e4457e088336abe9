/-! ===== land: the reference reads a statement ===== -/
def tl (s : Nat → Nat) (L j : Nat) (β : Bool) : Bool × Nat × Nat :=
  if L = 104 then (if (!β && decide (s j = 108)) = true then (β, j + 1, 1) else (β, j, 0))
  else if L = 119 then (if (!β && decide (s j = 32)) = true then (if dgt s (j + 1) = true then (false, (nl s 1 (s (j + 1) - 48) (j + 2)).2, (nl s 1 (s (j + 1) - 48) (j + 2)).1) else (true, j + 1, 0)) else (true, j, 0))
  else (β, j, 0)
theorem m_tail {d z j k L : Nat} {b : Nat → Int32} {β : Bool} {m : MI} {v : Int32} (h : TR d z b m) (q : Q2 j β m) (hj : j < 950) (hk : k < 51) (hv : v = nI L) (hL : L < 128) (h74 : m.1 74 k = 0) : ∃ m', (((if v = 104 then ((ldZ m 62 15).bind fun b92 => if b92 = true then some false else ((M_here m).bind fun r97 => some (decide (r97 = 108)))) else some false).bind fun c78 => if c78 = true then ((stF m 62 14 ((m.1 62 14) + 1)).bind fun m83 => (stA 51 m83 74 (nI k) 1).bind fun m86 => some m86) else (some m) : Option MI).bind fun m76 => (if v = 119 then ((M_take 32 m76).bind fun m108 => (M_readNumber 2 m108).bind fun x : Int32 × MI => (stA 51 x.2 74 (nI k) x.1).bind fun m115 => some m115) else (some m76) : Option MI)) = some m' ∧ ag (pZ k) m m' ∧ Q2 (tl (sg z b) L j β).2.1 (tl (sg z b) L j β).1 m' ∧ m'.1 74 k = nI (tl (sg z b) L j β).2.2 ∧ m'.1 62 16 = m.1 62 16 ∧ ∀ a, 70 ≤ a → a ≤ 73 → m'.1 a = m.1 a := by
  obtain ⟨q1, q2⟩ := q
  obtain ⟨x, x1, x2⟩ := m_here h q1 (show j < 1000 by omega)
  subst hv
  unfold tl
  by_cases e4 : L = 104
  · subst e4
    rw [if_pos (show nI 104 = 104 from rfl), if_pos rfl]
    simp only [if_neg (show ¬ nI 104 = 119 by decide)]
    have c : ((ldZ m 62 15).bind fun b92 => if b92 = true then some false else ((M_here m).bind fun r97 => some (decide (r97 = 108)))) = some (!β && decide (sg z b j = 108)) := by
      rw [ldZ_b q2, x1]
      have e : (x = 108) = (sg z b j = 108) := rel_eq x2 (c := 108) (by omega) (by omega)
      cases β
      · simp only [Option.bind_some, Bool.false_eq_true, if_false, e]; rfl
      · rfl
    rw [c]
    simp only [Option.bind_some]
    by_cases y : (!β && decide (sg z b j = 108)) = true
    · rw [y]
      simp only [if_true, stF, Option.bind_some]
      rw [q1, li_1, nI_add, stA_n hk (by omega)]
      refine ⟨_, rfl, ag_st (ag_si (by unfold pZ; omega)) (by unfold pZ; omega), ⟨?_, ?_⟩, ?_, ?_, fun a a1 a2 => by rw [si_ne (by omega), si_ne (by omega)]⟩
      · rw [si_ne (by omega), si_at, if_pos rfl]
      · rw [si_ne (by omega), si_at, if_neg (by omega)]; exact q2
      · rw [si_at, if_pos rfl]
      · rw [si_ne (by omega), si_at, if_neg (by omega)]
    · rw [Bool.eq_false_iff.mpr y]
      simp only [Bool.false_eq_true, if_false, Option.bind_some]
      exact ⟨m, rfl, ag_rf _ _, ⟨q1, q2⟩, h74, rfl, fun _ _ _ => rfl⟩
  rw [if_neg (show ¬ nI L = 104 from ne_lit (k := 104) (by omega) (by omega) e4), if_neg e4]
  simp only [Option.bind_some, Bool.false_eq_true, if_false]
  by_cases e9 : L = 119
  · subst e9
    rw [if_pos (show nI 119 = 119 from rfl), if_pos rfl]
    obtain ⟨m1, u1, u2, u3, u4, u5⟩ := m_take (c := 32) k h ⟨q1, q2⟩ (show j < 999 by omega) (by omega) (by omega)
    have u1' : M_take 32 m = some m1 := u1
    rw [u1']
    simp only [Option.bind_some]
    by_cases y : (!β && decide (sg z b j = 32)) = true
    · rw [y] at u3
      rw [if_pos y]
      simp only [if_true, Bool.not_true] at u3
      obtain ⟨m2, v1, v2, v3, v4, v5⟩ := m_number (M := 2) k (by omega) (by omega) (h.fr u2) u3 (show j + 1 < 990 by omega)
      have v1' : M_readNumber 2 m1 = _ := v1
      rw [v1']
      simp only [Option.bind_some]
      rw [stA_n hk (by omega)]
      simp only [Bool.not_false, Bool.true_and] at v3 ⊢
      by_cases w : dgt (sg z b) (j + 1) = true
      · rw [w] at v3
        rw [if_pos w, if_pos w]
        simp only [if_true, Bool.not_true] at v3
        refine ⟨_, rfl, ag_st (ag_tr u2 v2) (by unfold pZ; omega), ⟨?_, ?_⟩, ?_, ?_, fun a a1 a2 => ?_⟩
        · rw [si_ne (by omega)]; exact v3.1
        · rw [si_ne (by omega)]; exact v3.2
        · rw [si_at, if_pos rfl]
        · rw [si_ne (by omega), v4, u4]
        · rw [si_ne (by omega), v5 a (by omega) (by omega), u5 a (by omega) (by omega)]
      · have w' := Bool.eq_false_iff.mpr w
        rw [w'] at v3
        rw [if_neg w, if_neg w]
        simp only [Bool.false_eq_true, if_false, Bool.not_false] at v3
        refine ⟨_, rfl, ag_st (ag_tr u2 v2) (by unfold pZ; omega), ⟨?_, ?_⟩, ?_, ?_, fun a a1 a2 => ?_⟩
        · rw [si_ne (by omega)]; exact v3.1
        · rw [si_ne (by omega)]; exact v3.2
        · rw [si_at, if_pos rfl]
        · rw [si_ne (by omega), v4, u4]
        · rw [si_ne (by omega), v5 a (by omega) (by omega), u5 a (by omega) (by omega)]
    · have y' := Bool.eq_false_iff.mpr y
      rw [y'] at u3
      rw [if_neg y]
      simp only [Bool.false_eq_true, if_false, Bool.not_false] at u3
      obtain ⟨m2, v1, v2, v3, v4, v5⟩ := m_number (M := 2) k (by omega) (by omega) (h.fr u2) u3 (show j < 990 by omega)
      have v1' : M_readNumber 2 m1 = _ := v1
      rw [v1']
      simp only [Option.bind_some, Bool.not_true, Bool.false_and, Bool.false_eq_true, if_false] at v3 ⊢
      rw [stA_n hk (by omega)]
      refine ⟨_, rfl, ag_st (ag_tr u2 v2) (by unfold pZ; omega), ⟨?_, ?_⟩, ?_, ?_, fun a a1 a2 => ?_⟩
      · rw [si_ne (by omega)]; exact v3.1
      · rw [si_ne (by omega)]; exact v3.2
      · rw [si_at, if_pos rfl]
      · rw [si_ne (by omega), v4, u4]
      · rw [si_ne (by omega), v5 a (by omega) (by omega), u5 a (by omega) (by omega)]
  · rw [if_neg (show ¬ nI L = 119 from ne_lit (k := 119) (by omega) (by omega) e9), if_neg e9]
    exact ⟨m, rfl, ag_rf _ _, ⟨q1, q2⟩, h74, rfl, fun _ _ _ => rfl⟩
/-- what is asked of the rest of a statement -/
def RRX (z : Nat) (b : Nat → Int32) (k i : Nat) (v : Int32) (m : MI) : Prop := ∃ (m' : MI) (j : Nat) (β : Bool) (x y c : Nat), M_readRest (nI k) v m = some m' ∧ ag (pZ k) m m' ∧ Q2 j β m' ∧ m'.1 62 16 = m.1 62 16 ∧ m'.1 70 = m.1 70 ∧ m'.1 71 = m.1 71 ∧ (β = false → m'.1 72 k = nI x ∧ m'.1 73 k = (if sg z b i = 112 then iI ((y : Int) - 1) else nI y) ∧ (sg z b i = 104 → m'.1 74 k = nI (c - 1)) ∧ (sg z b i = 119 → m'.1 74 k = nI c)) ∧ pst (sg z b) i = (if β = true then (false, j, 0, 0, 0) else fnn_ (sg z b) j x y c) ∧ j < 999
theorem m_restP {d z i k : Nat} {b : Nat → Int32} {m : MI} (h : TR d z b m) (q : Q2 (i + 1) false m) (hi : i < 900) (hk : k < 51) (hL : sg z b i = 112) : RRX z b k i (nI (sg z b i)) m := by
  unfold RRX
  rw [hL]
  have hl : isL (sg z b i) = true := by rw [hL]; rfl
  obtain ⟨m1, u1, u2, u3, u4, u5⟩ := m_number (M := 3) k (by omega) (by omega) h q (show i + 1 < 990 by omega)
  have u1' : M_readNumber 3 m = _ := u1
  unfold M_readRest
  rw [if_pos (show nI 112 = 112 from rfl), u1']
  simp only [Option.bind_some]
  rw [stA_n hk (by omega)]
  simp only [Option.bind_some]
  rw [stA_n hk (by omega)]
  simp only [Option.bind_some, Bool.not_false, Bool.true_and] at u3 ⊢
  by_cases w : dgt (sg z b) (i + 1) = true
  · rw [w] at u3
    rw [w]
    simp only [if_true, Bool.not_true] at u3 ⊢
    have u3 : Q2 (nl (sg z b) 2 (sg z b (i + 1) - 48) (i + 2)).2 false m1 := u3
    have nb := nl_b (sg z b) 2 (sg z b (i + 1) - 48) (i + 2) 1 (by
      have := w
      unfold dgt at this
      have := of_decide_eq_true this
      omega)
    have ps : pst (sg z b) i = ppe (sg z b) i := by
      unfold pst
      rw [hl, if_neg (by decide), w, if_neg (by decide), if_neg (by rw [hL]; decide), if_pos hL]
    rw [ps]
    unfold ppe
    generalize hj : (nl (sg z b) 2 (sg z b (i + 1) - 48) (i + 2)).2 = j at u3 nb ⊢
    have nb1 := nb.1
    have hp : (nl (sg z b) (3 - 1) (sg z b (i + 1) - 48) (i + 1 + 1)).1 = (nl (sg z b) 2 (sg z b (i + 1) - 48) (i + 2)).1 := rfl
    rw [hp]
    generalize (nl (sg z b) 2 (sg z b (i + 1) - 48) (i + 2)).1 = p at nb ⊢
    generalize hm2 : si (si m1 72 k (nI p)) 73 k (-1) = m2
    have g2 : ag (pZ k) m m2 := by rw [← hm2]; exact ag_st (ag_st u2 (by unfold pZ; omega)) (by unfold pZ; omega)
    have q2' : Q2 j false m2 := by
      rw [← hm2]
      exact ⟨by rw [si_ne (by omega), si_ne (by omega)]; exact u3.1, by rw [si_ne (by omega), si_ne (by omega)]; exact u3.2⟩
    have k72 : m2.1 72 k = nI p := by rw [← hm2, si_ne (by omega), si_at, if_pos rfl]
    have k73 : m2.1 73 k = -1 := by rw [← hm2, si_at, if_pos rfl]
    have k16 : m2.1 62 16 = m.1 62 16 := by rw [← hm2, si_ne (by omega), si_ne (by omega), u4]
    have k7 : ∀ a, 70 ≤ a → a ≤ 71 → m2.1 a = m.1 a := fun a a1 a2 => by rw [← hm2, si_ne (by omega), si_ne (by omega), u5 a (by omega) (by omega)]
    obtain ⟨x, x1, x2⟩ := m_here (h.fr g2) q2'.1 (show j < 1000 by omega)
    have e : (x = 107) = (sg z b j = 107) := rel_eq x2 (c := 107) (by omega) (by omega)
    rw [ldZ_b q2'.2, x1]
    simp only [Option.bind_some, Bool.false_eq_true, if_false, e]
    by_cases y : sg z b j = 107
    · rw [decide_eq_true y, if_pos y]
      simp only [if_true, stF, Option.bind_some]
      rw [q2'.1, li_1, nI_add]
      have g3 : ag (pZ k) m (si m2 62 14 (nI (j + 1))) := ag_st g2 (by unfold pZ; omega)
      obtain ⟨m4, v1, v2, v3, v4, v5⟩ := m_digit k (h.fr g3) (i := j + 1) (β := false) ⟨by rw [si_at, if_pos rfl], by rw [si_at, if_neg (by omega)]; exact q2'.2⟩ (by omega)
      rw [v1]
      simp only [Option.bind_some]
      rw [stA_n hk (by omega)]
      simp only [Option.bind_some, Bool.not_false, Bool.true_and] at v3 ⊢
      have fr : ∀ a, 70 ≤ a → a ≤ 72 → ∀ o : Int32, (si m4 73 k o).1 a = m2.1 a := fun a a1 a2 o => by rw [si_ne (by omega), v5 a (by omega) (by omega), si_ne (by omega)]
      by_cases t : dgt (sg z b) (j + 1) = true
      · rw [t] at v3
        rw [t]
        simp only [if_true, Bool.not_true] at v3 ⊢
        refine ⟨_, j + 2, false, p, sg z b (j + 1) - 48 + 1, 0, rfl, ag_st (ag_tr g3 v2) (by unfold pZ; omega), ⟨?_, ?_⟩, ?_, ?_, ?_, fun _ => ⟨?_, ?_, fun r => absurd r (by decide), fun r => absurd r (by decide)⟩, rfl, by omega⟩
        · rw [si_ne (by omega)]; exact v3.1
        · rw [si_ne (by omega)]; exact v3.2
        · rw [si_ne (by omega), v4, si_at, if_neg (by omega), k16]
        · rw [fr 70 (by omega) (by omega), k7 70 (by omega) (by omega)]
        · rw [fr 71 (by omega) (by omega), k7 71 (by omega) (by omega)]
        · rw [fr 72 (by omega) (by omega), k72]
        · rw [si_at, if_pos rfl, ← iI_nat]
          congr 1; omega
      · have t' := Bool.eq_false_iff.mpr t
        rw [t'] at v3
        rw [t']
        simp only [Bool.false_eq_true, if_false, Bool.not_false] at v3 ⊢
        refine ⟨_, j + 1, true, 0, 0, 0, rfl, ag_st (ag_tr g3 v2) (by unfold pZ; omega), ⟨?_, ?_⟩, ?_, ?_, ?_, fun r => (by cases r), rfl, by omega⟩
        · rw [si_ne (by omega)]; exact v3.1
        · rw [si_ne (by omega)]; exact v3.2
        · rw [si_ne (by omega), v4, si_at, if_neg (by omega), k16]
        · rw [fr 70 (by omega) (by omega), k7 70 (by omega) (by omega)]
        · rw [fr 71 (by omega) (by omega), k7 71 (by omega) (by omega)]
    · rw [decide_eq_false y, if_neg y]
      simp only [Bool.false_eq_true, if_false, Option.bind_some]
      exact ⟨m2, j, false, p, 0, 0, rfl, g2, q2', k16, k7 70 (by omega) (by omega), k7 71 (by omega) (by omega), fun _ => ⟨k72, k73, fun r => absurd r (by decide), fun r => absurd r (by decide)⟩, rfl, by omega⟩
  · have w' := Bool.eq_false_iff.mpr w
    rw [w'] at u3
    rw [w']
    simp only [Bool.false_eq_true, if_false, Bool.not_false] at u3 ⊢
    have ps : pst (sg z b) i = (false, i + 1, 0, 0, 0) := by
      unfold pst
      rw [hl, if_neg (by decide), w', if_pos rfl]
    rw [ldZ_b (b := true) (show (si (si m1 72 k (nI 0)) 73 k (-1)).1 62 15 = bI true from by rw [si_ne (by omega), si_ne (by omega)]; exact u3.2)]
    simp only [Option.bind_some, if_true, Bool.false_eq_true, if_false]
    refine ⟨_, i + 1, true, 0, 0, 0, rfl, ag_st (ag_st u2 (by unfold pZ; omega)) (by unfold pZ; omega), ⟨?_, ?_⟩, ?_, ?_, ?_, fun r => (by cases r), ps, by omega⟩
    · rw [si_ne (by omega), si_ne (by omega)]; exact u3.1
    · rw [si_ne (by omega), si_ne (by omega)]; exact u3.2
    · rw [si_ne (by omega), si_ne (by omega), u4]
    · rw [si_ne (by omega), si_ne (by omega), u5 70 (by omega) (by omega)]
    · rw [si_ne (by omega), si_ne (by omega), u5 71 (by omega) (by omega)]
