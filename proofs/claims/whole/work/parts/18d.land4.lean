/-! ===== land: the reference's whole step ===== -/
theorem MR.sw {A : LV} {m : MI} (h : MR A m) (w : WF A) {q f v : Nat} (hf : f < 6) : MR (A.sw q f v) (si m 67 (6 * q + f) (nI v)) := by
  have hn := w.n6
  have z : ∀ a, a ≠ 67 → (si m 67 (6 * q + f) (nI v)).1 a = m.1 a := fun a ha => si_ne ha
  unfold MR
  rw [z 62 (by omega), z 63 (by omega), z 64 (by omega), z 65 (by omega), z 66 (by omega), z 68 (by omega)]
  refine ⟨h.1, h.2.1, h.2.2.1, h.2.2.2.1, h.2.2.2.2.1, h.2.2.2.2.2.1, h.2.2.2.2.2.2.1, h.2.2.2.2.2.2.2.1, h.2.2.2.2.2.2.2.2.1, fun x y hx hy => ?_⟩
  have hy : y < A.n := hy
  rw [si_at]
  show _ = nI (if x = q ∧ y = f then v else A.wo x y)
  by_cases e : x = q ∧ y = f
  · rw [if_pos e, if_pos (by omega)]
  · rw [if_neg e, if_neg (by omega)]; exact h.hwo hx hy
theorem MR.law {A : LV} {m : MI} (h : MR A m) {a b : Nat} (ha : a < 2) (hb : b < 2) : MR (A.lwv (decide (a = 1)) (decide (b = 1))) (si (si m 62 3 (nI a)) 62 4 (nI b)) := by
  have z : ∀ x, x ≠ 62 → (si (si m 62 3 (nI a)) 62 4 (nI b)).1 x = m.1 x := fun x hx => by rw [si_ne hx, si_ne hx]
  have two : ∀ k, k < 2 → nI k = bI (decide (k = 1)) := fun k hk => by
    rcases (by omega : k = 0 ∨ k = 1) with rfl | rfl <;> rfl
  unfold MR
  rw [z 63 (by omega), z 64 (by omega), z 65 (by omega), z 66 (by omega), z 67 (by omega), z 68 (by omega)]
  refine ⟨?_, ?_, ?_, ?_, h.2.2.2.2⟩
  · rw [si_at, if_neg (by omega), si_at, if_neg (by omega)]; exact h.hn
  · rw [si_at, if_neg (by omega), si_at, if_neg (by omega)]; exact h.hp
  · rw [si_at, if_neg (by omega), si_at, if_pos rfl]; exact two a ha
  · rw [si_at, if_pos rfl]; exact two b hb
theorem m_comes {A : LV} {m : MI} {k L a b c : Nat} (h : MR A m) (w : WF A) (hk : k < 51) (rf : RF k L a b c m) (bd : BD L a b c) : ∃ m', M_comes (nI k) m = some ((stmt_ A L a b c).isSome, m') ∧ ag pRr m m' ∧ (∀ x, x < 3 → 0 ≤ (m.1 65 x).toInt → 0 ≤ (m'.1 65 x).toInt) ∧ ∀ B, stmt_ A L a b c = some B → MR B m' := by
  have hn := w.n6
  have hp := w.p3
  obtain ⟨r1, r2, r3, r4, r5⟩ := rf
  obtain ⟨b1, b2, b3, b4, b5, b6, b7⟩ := bd
  have L7 : L < 2 ^ 31 := by omega
  unfold M_comes
  rw [ldA_n hk (by omega), ldA_n hk (by omega), ldA_n hk (by omega), r1, r2, r3]
  simp only [Option.bind_some]
  by_cases e1 : L = 102
  · subst e1
    rw [if_pos (show nI 102 = 102 from rfl)]
    obtain ⟨m', u1, u2, u3⟩ := m_fieldComes h w (b1 (by omega))
    have e : stmt_ A 102 a b c = if a = 0 ∨ A.n = 6 then none else some (A.af a) := rfl
    rw [u1, e, sm_itn]
    exact ⟨m', rfl, ag_mo u2 (fun x j q => q.1), fun x hx q => by rw [u2.1 65 x (fun y => y.2 rfl)]; exact q, fun B q => by obtain ⟨q1, q2⟩ := itn_get q; rw [← q2]; exact u3 q1⟩
  rw [if_neg (show ¬ nI L = 102 from ne_lit (k := 102) L7 (by omega) e1)]
  by_cases e2 : L = 112
  · subst e2
    rw [if_pos (show nI 112 = 112 from rfl), if_pos (show 112 = 112 from rfl)]
    obtain ⟨m', u1, u2, u3, u4⟩ := m_personComes h w b2 b3
    have e : stmt_ A 112 a b c = if A.p < b ∨ A.p = 3 then none else some (A.ap a b) := rfl
    rw [u1, e, sm_itn]
    exact ⟨m', rfl, u2, u3, fun B q => by obtain ⟨q1, q2⟩ := itn_get q; rw [← q2]; exact u4 q1⟩
  rw [if_neg (show ¬ nI L = 112 from ne_lit (k := 112) L7 (by omega) e2), if_neg e2]
  have a9 := b1 e2
  by_cases e3 : L = 120
  · subst e3
    rw [if_pos (show nI 120 = 120 from rfl)]
    simp only [stF, Option.bind_some]
    have e : stmt_ A 120 a b c = if a < 2 ∧ b < 2 then some (A.lwv (decide (a = 1)) (decide (b = 1))) else none := rfl
    have cc : (if nI a < 2 then some (decide (nI b < 2)) else some false) = some (decide (a < 2 ∧ b < 2)) := by
      rw [li_2]
      by_cases z : a < 2
      · rw [if_pos (nI_lt z (by omega))]
        congr 1
        exact decide_eq_decide.mpr (by rw [nI_ltI (by omega) (by omega)]; omega)
      · rw [if_neg (nI_nlt (by omega) (by omega)), decide_eq_false (fun q => z q.1)]
    rw [cc, e, sm_ite]
    refine ⟨_, rfl, ag_st (ag_si (by unfold pRr; omega)) (by unfold pRr; omega), fun x hx q => by rw [si_ne (by omega), si_ne (by omega)]; exact q, fun B q => ?_⟩
    obtain ⟨q1, q2⟩ := ite_get q
    rw [← q2]; exact h.law q1.1 q1.2
  rw [if_neg (show ¬ nI L = 120 from ne_lit (k := 120) L7 (by omega) e3)]
  by_cases e4 : L = 104 ∨ L = 99
  · have c40 : (if nI L = 104 then some true else some (decide (nI L = 99))) = some true := by
      rcases e4 with rfl | rfl
      · rfl
      · rfl
    rw [c40]
    simp only [Option.bind_some, if_true]
    have e : stmt_ A L a b c = if a < A.n ∧ b < A.n ∧ a ≠ b ∧ A.to a b = 0 then some (A.stt a b c) else none := by
      unfold stmt_
      rw [if_neg e1, if_neg e2, if_neg e3, if_pos e4]
    have c45 : ((M_isField (nI a) m).bind fun b67 => if b67 = true then ((M_isField (nI b) m).bind fun b71 => if b71 = true then (if nI a = nI b then some true else ((ldA 36 m 64 ((6 * nI a) + nI b)).bind fun x77 => some (decide (x77 ≠ 0)))) else some true) else some true) = some (!decide (a < A.n ∧ b < A.n ∧ a ≠ b ∧ A.to a b = 0)) := by
      rw [m_isField h w, m_isField h w, inR_n (f := a) (by omega), inR_n (f := b) (by omega)]
      simp only [Option.bind_some]
      by_cases z1 : a < A.n
      · by_cases z2 : b < A.n
        · rw [decide_eq_true z1, decide_eq_true z2]
          simp only [if_true]
          by_cases z3 : a = b
          · rw [if_pos (by rw [z3]), decide_eq_false (show ¬ (a < A.n ∧ b < A.n ∧ a ≠ b ∧ A.to a b = 0) from fun q => q.2.2.1 z3)]; rfl
          · have t3 := w.t3 a b
            rw [if_neg (ne_lit (by omega) (by omega) z3), li_6, pk_mul, nI_add, ldA_n (show 6 * a + b < 36 by omega) (by omega), h.hto z1 z2]
            simp only [Option.bind_some]
            congr 1
            by_cases z4 : A.to a b = 0
            · rw [z4, decide_eq_true (show a < A.n ∧ b < A.n ∧ a ≠ b ∧ 0 = 0 from ⟨z1, z2, z3, rfl⟩)]; rfl
            · rw [decide_eq_true (show nI (A.to a b) ≠ 0 from ne_lit (k := 0) (by omega) (by omega) z4), decide_eq_false (fun q => z4 q.2.2.2)]; rfl
        · rw [decide_eq_true z1, decide_eq_false z2, decide_eq_false (fun q => z2 q.2.1)]; rfl
      · rw [decide_eq_false z1, decide_eq_false (show ¬ (a < A.n ∧ b < A.n ∧ a ≠ b ∧ A.to a b = 0) from fun q => z1 q.1)]; rfl
    rw [c45, e, sm_ite]
    simp only [Option.bind_some]
    by_cases z : a < A.n ∧ b < A.n ∧ a ≠ b ∧ A.to a b = 0
    · rw [decide_eq_true z]
      have x52 : (if nI L = 99 then some 3 else (ldA 51 m 74 (nI k)).bind fun x58 => some (1 + x58)) = some (nI c) := by
        rcases e4 with e4 | e4
        · have q := r4 e4
          have cc := b5 e4
          rw [if_neg (show ¬ nI L = 99 from ne_lit (k := 99) L7 (by omega) (by omega)), ldA_n hk (by omega), q]
          rcases cc with rfl | rfl <;> rfl
        · rw [e4, if_pos (show nI 99 = 99 from rfl), b6 e4]; rfl
      simp only [Bool.not_true, Bool.false_eq_true, if_false]
      rw [x52]
      simp only [Option.bind_some]
      have z1 : stA 36 m 64 ((6 * nI a) + nI b) (nI c) = some (si m 64 (6 * a + b) (nI c)) := by
        rw [li_6, pk_mul, nI_add, stA_n (by omega) (by omega)]
      have z2 : stA 36 (si m 64 (6 * a + b) (nI c)) 64 ((6 * nI b) + nI a) (nI c) = some (si (si m 64 (6 * a + b) (nI c)) 64 (6 * b + a) (nI c)) := by
        rw [li_6, pk_mul, nI_add, stA_n (by omega) (by omega)]
      rw [z1]
      simp only [Option.bind_some]
      rw [z2]
      refine ⟨_, rfl, ag_st (ag_si (by unfold pRr; omega)) (by unfold pRr; omega), fun x hx q => by rw [si_ne (by omega), si_ne (by omega)]; exact q, fun B q => ?_⟩
      obtain ⟨q1, q2⟩ := ite_get q
      rw [← q2]; exact h.stt w q1.1 q1.2.1
    · rw [decide_eq_false z]
      exact ⟨m, rfl, ag_rf _ _, fun _ _ q => q, fun B q => absurd (ite_get q).1 z⟩
  have c40 : (if nI L = 104 then some true else some (decide (nI L = 99))) = some false := by
    rw [if_neg (show ¬ nI L = 104 from ne_lit (k := 104) L7 (by omega) (by omega)), decide_eq_false (show ¬ nI L = 99 from ne_lit (k := 99) L7 (by omega) (by omega))]
  rw [c40]
  simp only [Option.bind_some, Bool.false_eq_true, if_false]
  have c84 : ((M_isPerson (nI a) m).bind fun b108 => if b108 = true then ((M_isField (nI b) m).bind fun b112 => some (!b112)) else some true) = some (!decide (a < A.p ∧ b < A.n)) := by
    rw [m_isPerson h w, m_isField h w, inR_n (f := a) (by omega), inR_n (f := b) (by omega)]
    simp only [Option.bind_some]
    by_cases z1 : a < A.p
    · by_cases z2 : b < A.n
      · rw [decide_eq_true z1, decide_eq_true z2, decide_eq_true (show a < A.p ∧ b < A.n from ⟨z1, z2⟩)]; rfl
      · rw [decide_eq_true z1, decide_eq_false z2, decide_eq_false (fun q => z2 q.2)]; rfl
    · rw [decide_eq_false z1, decide_eq_false (show ¬ (a < A.p ∧ b < A.n) from fun q => z1 q.1)]; rfl
  rw [c84]
  simp only [Option.bind_some]
  by_cases e5 : L = 119
  · have e : stmt_ A L a b c = if a < A.p ∧ b < A.n then some (A.sw a b c) else none := by
      unfold stmt_
      rw [if_neg e1, if_neg e2, if_neg e3, if_neg e4, if_pos e5]
    rw [e, sm_ite]
    by_cases z : a < A.p ∧ b < A.n
    · rw [decide_eq_true z]
      have z1 : stA 18 m 67 ((6 * nI a) + nI b) (nI c) = some (si m 67 (6 * a + b) (nI c)) := by
        rw [li_6, pk_mul, nI_add, stA_n (by omega) (by omega)]
      simp only [Bool.not_true, Bool.false_eq_true, if_false]
      rw [if_pos (show nI L = 119 from by rw [e5]; rfl), ldA_n hk (by omega), r5 e5]
      simp only [Option.bind_some]
      rw [z1]
      refine ⟨_, rfl, ag_si (by unfold pRr; omega), fun x hx q => by rw [si_ne (by omega)]; exact q, fun B q => ?_⟩
      obtain ⟨q1, q2⟩ := ite_get q
      rw [← q2]; exact h.sw w (by omega)
    · rw [decide_eq_false z]
      exact ⟨m, rfl, ag_rf _ _, fun _ _ q => q, fun B q => absurd (ite_get q).1 z⟩
  · have e : stmt_ A L a b c = if a < A.p ∧ b < A.n then some (A.gv b (a + 1)) else none := by
      unfold stmt_
      rw [if_neg e1, if_neg e2, if_neg e3, if_neg e4, if_neg e5]
    rw [e, sm_ite]
    by_cases z : a < A.p ∧ b < A.n
    · rw [decide_eq_true z]
      simp only [Bool.not_true, Bool.false_eq_true, if_false]
      rw [if_neg (show ¬ nI L = 119 from ne_lit (k := 119) L7 (by omega) e5), li_1, nI_add, stA_n (show b < 6 by omega) (by omega)]
      refine ⟨_, rfl, ag_si (by unfold pRr; omega), fun x hx q => by rw [si_ne (by omega)]; exact q, fun B q => ?_⟩
      obtain ⟨q1, q2⟩ := ite_get q
      rw [← q2]; exact h.gv
    · rw [decide_eq_false z]
      exact ⟨m, rfl, ag_rf _ _, fun _ _ q => q, fun B q => absurd (ite_get q).1 z⟩
