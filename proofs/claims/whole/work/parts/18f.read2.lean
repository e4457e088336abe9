/-! ===== land: the class takes a statement ===== -/
theorem c_isLetter {v : Int32} {n : Nat} {m : MI} (h : Rel v n) (e : m.1 23 1 = v) : LandReader_isLetter m = some (isL n) := by
  unfold LandReader_isLetter
  rw [e]
  simp only [Option.bind_some]
  by_cases z99 : n = 99
  · rw [if_pos (show v = 99 from (rel_eq h (c := 99) (by omega) (by omega)).mpr z99), z99]
    rfl
  rw [if_neg (show ¬ v = 99 from fun q => z99 ((rel_eq h (c := 99) (by omega) (by omega)).mp q))]
  by_cases z100 : n = 100
  · rw [if_pos (show v = 100 from (rel_eq h (c := 100) (by omega) (by omega)).mpr z100), z100]
    rfl
  rw [if_neg (show ¬ v = 100 from fun q => z100 ((rel_eq h (c := 100) (by omega) (by omega)).mp q))]
  by_cases z101 : n = 101
  · rw [if_pos (show v = 101 from (rel_eq h (c := 101) (by omega) (by omega)).mpr z101), z101]
    rfl
  rw [if_neg (show ¬ v = 101 from fun q => z101 ((rel_eq h (c := 101) (by omega) (by omega)).mp q))]
  by_cases z102 : n = 102
  · rw [if_pos (show v = 102 from (rel_eq h (c := 102) (by omega) (by omega)).mpr z102), z102]
    rfl
  rw [if_neg (show ¬ v = 102 from fun q => z102 ((rel_eq h (c := 102) (by omega) (by omega)).mp q))]
  by_cases z103 : n = 103
  · rw [if_pos (show v = 103 from (rel_eq h (c := 103) (by omega) (by omega)).mpr z103), z103]
    rfl
  rw [if_neg (show ¬ v = 103 from fun q => z103 ((rel_eq h (c := 103) (by omega) (by omega)).mp q))]
  by_cases z104 : n = 104
  · rw [if_pos (show v = 104 from (rel_eq h (c := 104) (by omega) (by omega)).mpr z104), z104]
    rfl
  rw [if_neg (show ¬ v = 104 from fun q => z104 ((rel_eq h (c := 104) (by omega) (by omega)).mp q))]
  by_cases z105 : n = 105
  · rw [if_pos (show v = 105 from (rel_eq h (c := 105) (by omega) (by omega)).mpr z105), z105]
    rfl
  rw [if_neg (show ¬ v = 105 from fun q => z105 ((rel_eq h (c := 105) (by omega) (by omega)).mp q))]
  by_cases z106 : n = 106
  · rw [if_pos (show v = 106 from (rel_eq h (c := 106) (by omega) (by omega)).mpr z106), z106]
    rfl
  rw [if_neg (show ¬ v = 106 from fun q => z106 ((rel_eq h (c := 106) (by omega) (by omega)).mp q))]
  by_cases z107 : n = 107
  · rw [if_pos (show v = 107 from (rel_eq h (c := 107) (by omega) (by omega)).mpr z107), z107]
    rfl
  rw [if_neg (show ¬ v = 107 from fun q => z107 ((rel_eq h (c := 107) (by omega) (by omega)).mp q))]
  by_cases z108 : n = 108
  · rw [if_pos (show v = 108 from (rel_eq h (c := 108) (by omega) (by omega)).mpr z108), z108]
    rfl
  rw [if_neg (show ¬ v = 108 from fun q => z108 ((rel_eq h (c := 108) (by omega) (by omega)).mp q))]
  by_cases z109 : n = 109
  · rw [if_pos (show v = 109 from (rel_eq h (c := 109) (by omega) (by omega)).mpr z109), z109]
    rfl
  rw [if_neg (show ¬ v = 109 from fun q => z109 ((rel_eq h (c := 109) (by omega) (by omega)).mp q))]
  by_cases z110 : n = 110
  · rw [if_pos (show v = 110 from (rel_eq h (c := 110) (by omega) (by omega)).mpr z110), z110]
    rfl
  rw [if_neg (show ¬ v = 110 from fun q => z110 ((rel_eq h (c := 110) (by omega) (by omega)).mp q))]
  by_cases z111 : n = 111
  · rw [if_pos (show v = 111 from (rel_eq h (c := 111) (by omega) (by omega)).mpr z111), z111]
    rfl
  rw [if_neg (show ¬ v = 111 from fun q => z111 ((rel_eq h (c := 111) (by omega) (by omega)).mp q))]
  by_cases z112 : n = 112
  · rw [if_pos (show v = 112 from (rel_eq h (c := 112) (by omega) (by omega)).mpr z112), z112]
    rfl
  rw [if_neg (show ¬ v = 112 from fun q => z112 ((rel_eq h (c := 112) (by omega) (by omega)).mp q))]
  by_cases z113 : n = 113
  · rw [if_pos (show v = 113 from (rel_eq h (c := 113) (by omega) (by omega)).mpr z113), z113]
    rfl
  rw [if_neg (show ¬ v = 113 from fun q => z113 ((rel_eq h (c := 113) (by omega) (by omega)).mp q))]
  by_cases z114 : n = 114
  · rw [if_pos (show v = 114 from (rel_eq h (c := 114) (by omega) (by omega)).mpr z114), z114]
    rfl
  rw [if_neg (show ¬ v = 114 from fun q => z114 ((rel_eq h (c := 114) (by omega) (by omega)).mp q))]
  by_cases z115 : n = 115
  · rw [if_pos (show v = 115 from (rel_eq h (c := 115) (by omega) (by omega)).mpr z115), z115]
    rfl
  rw [if_neg (show ¬ v = 115 from fun q => z115 ((rel_eq h (c := 115) (by omega) (by omega)).mp q))]
  by_cases z116 : n = 116
  · rw [if_pos (show v = 116 from (rel_eq h (c := 116) (by omega) (by omega)).mpr z116), z116]
    rfl
  rw [if_neg (show ¬ v = 116 from fun q => z116 ((rel_eq h (c := 116) (by omega) (by omega)).mp q))]
  by_cases z117 : n = 117
  · rw [if_pos (show v = 117 from (rel_eq h (c := 117) (by omega) (by omega)).mpr z117), z117]
    rfl
  rw [if_neg (show ¬ v = 117 from fun q => z117 ((rel_eq h (c := 117) (by omega) (by omega)).mp q))]
  by_cases z118 : n = 118
  · rw [if_pos (show v = 118 from (rel_eq h (c := 118) (by omega) (by omega)).mpr z118), z118]
    rfl
  rw [if_neg (show ¬ v = 118 from fun q => z118 ((rel_eq h (c := 118) (by omega) (by omega)).mp q))]
  by_cases z119 : n = 119
  · rw [if_pos (show v = 119 from (rel_eq h (c := 119) (by omega) (by omega)).mpr z119), z119]
    rfl
  rw [if_neg (show ¬ v = 119 from fun q => z119 ((rel_eq h (c := 119) (by omega) (by omega)).mp q))]
  by_cases z120 : n = 120
  · rw [if_pos (show v = 120 from (rel_eq h (c := 120) (by omega) (by omega)).mpr z120), z120]
    rfl
  rw [if_neg (show ¬ v = 120 from fun q => z120 ((rel_eq h (c := 120) (by omega) (by omega)).mp q))]
  unfold isL
  rw [decide_eq_false (by omega)]
theorem isL_t {n : Nat} (h : isL n = true) : n = 99 ∨ n = 102 ∨ n = 104 ∨ n = 111 ∨ n = 112 ∨ n = 119 ∨ n = 120 := by
  unfold isL at h
  exact of_decide_eq_true h
theorem dgm_k {j i v k : Nat} {m : MI} (hk : k ≠ 0) : (dgm j i v m).1 23 k = if k = j then nI v else m.1 23 k := by
  unfold dgm
  rw [si_at, if_neg hk, si_at]
theorem CF.st {L a b c : Nat} {m : MI} (h : CF L a b c m) (x : Int32) : CF L a b c (si m 23 0 x) := by
  have z : ∀ k, k ≠ 0 → (si m 23 0 x).1 23 k = m.1 23 k := fun k hk => by rw [si_at, if_neg hk]
  unfold CF
  rw [z 1 (by omega), z 2 (by omega), z 3 (by omega), z 4 (by omega), z 5 (by omega)]
  exact h
theorem c_takeKin {s : Nat → Nat} {tx j : Nat} {m : MI} (ht : 24 ≤ tx) (h : TX s tx m) (e0 : m.1 23 0 = nI j) (hj : j + 1 < 1000) : LandReader_takeKin tx m = some (if s j = 107 then (dgt s (j + 1), if dgt s (j + 1) = true then dgm 2 (j + 1) (s (j + 1) - 48) (si (si m 23 0 (nI (j + 1))) 23 5 (bI true)) else si (si m 23 0 (nI (j + 1))) 23 5 (bI true)) else (true, si m 23 5 (bI false))) := by
  unfold LandReader_takeKin
  have sg : LandReader_takeSign tx 107 m = some (decide (s j = 107), if s j = 107 then si m 23 0 (nI (j + 1)) else m) := c_sign (c := 107) h e0 (by omega) (by omega) (by omega)
  rw [sg]
  simp only [Option.bind_some]
  by_cases z : s j = 107
  · rw [decide_eq_true z, if_pos z, if_pos z]
    have zz : stZ (si m 23 0 (nI (j + 1))) 23 5 true = some (si (si m 23 0 (nI (j + 1))) 23 5 (bI true)) := rfl
    rw [zz]
    simp only [Option.bind_some]
    rw [ldZ_b (b := true) (show (si (si m 23 0 (nI (j + 1))) 23 5 (bI true)).1 23 5 = bI true from by rw [si_at, if_pos rfl])]
    simp only [Option.bind_some, if_true]
    rw [c_dig1 (s := s) (i := j + 1) (h.fr (ag_st (ag_si rfl) rfl) ht) (by rw [si_at, if_neg (by omega), si_at, if_pos rfl]) hj]
    rfl
  · rw [decide_eq_false z, if_neg z, if_neg z]
    have zz : stZ m 23 5 false = some (si m 23 5 (bI false)) := rfl
    rw [zz]
    simp only [Option.bind_some]
    rw [ldZ_b (b := false) (show (si m 23 5 (bI false)).1 23 5 = bI false from by rw [si_at, if_pos rfl])]
    rfl
/-- what is asked of a statement that is taken -/
def TK (s : Nat → Nat) (tx i : Nat) (m : MI) (r : Bool × Nat × Nat × Nat × Nat) : Prop := ∃ m', LandReader_takeStatement tx m = some (r.1, m') ∧ ag (fun a _ => a = 23) m m' ∧ m'.1 23 0 = nI r.2.1 ∧ (r.1 = true → CF (s i) r.2.2.1 r.2.2.2.1 r.2.2.2.2 m')
def lm (i : Nat) (v : Int32) (m : MI) : MI := si (si m 23 1 v) 23 0 (nI (i + 1))
theorem tk_bad {s : Nat → Nat} {tx i j : Nat} {m m2 : MI} {v : Int32} (e0 : m.1 23 0 = nI i) (h1 : Shelf_at tx (nI i) m = some v) (hr : Rel v (s i)) (hl : isL (s i) = true) (hb : LandReader_takeBehindLetter tx (lm i v m) = some (false, m2)) (g : ag (fun a _ => a = 23) (lm i v m) m2) (ej : m2.1 23 0 = nI j) : TK s tx i m (false, j, 0, 0, 0) := by
  refine ⟨m2, ?_, ag_tr (ag_st (ag_si rfl) rfl) g, ej, fun q => by cases q⟩
  unfold LandReader_takeStatement
  rw [e0, h1]
  simp only [Option.bind_some, stF]
  rw [c_isLetter hr (by rw [si_at, if_pos rfl]), hl]
  simp only [Option.bind_some, if_true]
  rw [si_at, if_neg (by omega), e0, li_1, nI_add]
  have hb' : LandReader_takeBehindLetter tx (si (si m 23 1 v) 23 0 (nI (i + 1))) = some (false, m2) := hb
  rw [hb']
  rfl
theorem tk_fin {s : Nat → Nat} {tx i j a b c : Nat} {m m2 : MI} {v : Int32} (ht : 24 ≤ tx) (hT : TX s tx m) (e0 : m.1 23 0 = nI i) (h1 : Shelf_at tx (nI i) m = some v) (hr : Rel v (s i)) (hl : isL (s i) = true) (hb : LandReader_takeBehindLetter tx (lm i v m) = some (true, m2)) (g : ag (fun a _ => a = 23) (lm i v m) m2) (ej : m2.1 23 0 = nI j) (hj : j < 1000) (cf : CF (s i) a b c m2) : TK s tx i m (fnn_ s j a b c) := by
  have g1 : ag (fun a _ => a = 23) m m2 := ag_tr (ag_st (ag_si rfl) rfl) g
  have sg : LandReader_takeSign tx 59 m2 = some (decide (s j = 59), if s j = 59 then si m2 23 0 (nI (j + 1)) else m2) := c_sign (c := 59) (hT.fr g1 ht) ej hj (by omega) (by omega)
  refine ⟨if s j = 59 then si m2 23 0 (nI (j + 1)) else m2, ?_, ?_, ?_, fun _ => ?_⟩
  · unfold LandReader_takeStatement
    rw [e0, h1]
    simp only [Option.bind_some, stF]
    rw [c_isLetter hr (by rw [si_at, if_pos rfl]), hl]
    simp only [Option.bind_some, if_true]
    rw [si_at, if_neg (by omega), e0, li_1, nI_add]
    have hb' : LandReader_takeBehindLetter tx (si (si m 23 1 v) 23 0 (nI (i + 1))) = some (true, m2) := hb
    rw [hb']
    simp only [Option.bind_some, if_true]
    rw [sg]
    rfl
  · split
    · exact ag_st g1 rfl
    · exact g1
  · show _ = nI (if s j = 59 then j + 1 else j)
    by_cases z : s j = 59
    · rw [if_pos z, if_pos z, si_at, if_pos rfl]
    · rw [if_neg z, if_neg z]; exact ej
  · show CF (s i) a b c _
    split
    · exact cf.st _
    · exact cf
theorem c_take2 {s : Nat → Nat} {tx i : Nat} {m : MI} {v : Int32} (ht : 24 ≤ tx) (hT : TX s tx m) (e0 : m.1 23 0 = nI i) (hi : i < 900) (h1 : Shelf_at tx (nI i) m = some v) (hr : Rel v (s i)) (hl : isL (s i) = true) (hd : dgt s (i + 1) = true) (n2 : s i ≠ 102) (n12 : s i ≠ 112) : TK s tx i m (ptw s i) := by
  have L := isL_t hl
  have ev : v = nI (s i) := hr.2.1 (by omega)
  have g1 : ag (fun a _ => a = 23) m (lm i v m) := ag_st (ag_si rfl) rfl
  have T1 := hT.fr g1 ht
  have a1 : (lm i v m).1 23 0 = nI (i + 1) := by unfold lm; rw [si_at, if_pos rfl]
  have l1 : (lm i v m).1 23 1 = nI (s i) := by unfold lm; rw [si_at, if_neg (by omega), si_at, if_pos rfl]; exact ev
  have d2 := c_dig2 (s := s) T1 ht a1 (show i + 1 + 1 < 1000 by omega)
  rw [hd, Bool.true_and, if_pos rfl] at d2
  have n2' : ¬ (lm i v m).1 23 1 = 102 := by rw [l1]; exact ne_lit (k := 102) (by omega) (by omega) n2
  have n12' : ¬ (lm i v m).1 23 1 = 112 := by rw [l1]; exact ne_lit (k := 112) (by omega) (by omega) n12
  have g2 : ag (fun a _ => a = 23) (lm i v m) (dgm 2 (i + 1) (s (i + 1) - 48) (lm i v m)) := dgm_ag1 _ _ _ _
  unfold ptw
  by_cases y : dgt s (i + 2) = true
  · rw [if_neg (by rw [y]; decide)]
    rw [show i + 1 + 1 = i + 2 from rfl, if_pos y, y] at d2
    generalize hm3 : dgm 3 (i + 2) (s (i + 2) - 48) (dgm 2 (i + 1) (s (i + 1) - 48) (lm i v m)) = m3 at d2
    have g3 : ag (fun a _ => a = 23) (lm i v m) m3 := by rw [← hm3]; exact ag_tr g2 (dgm_ag1 _ _ _ _)
    have T3 := T1.fr g3 ht
    have b0 : m3.1 23 0 = nI (i + 3) := by rw [← hm3]; exact dgm_0 _ _ _ _
    have b1 : m3.1 23 1 = nI (s i) := by rw [← hm3, dgm_k (by omega), if_neg (by omega), dgm_k (by omega), if_neg (by omega)]; exact l1
    have b2 : m3.1 23 2 = nI (s (i + 1) - 48) := by rw [← hm3, dgm_k (by omega), if_neg (by omega), dgm_k (by omega), if_pos rfl]
    have b3 : m3.1 23 3 = nI (s (i + 2) - 48) := by rw [← hm3, dgm_k (by omega), if_pos rfl]
    by_cases e4 : s i = 104
    · rw [if_pos e4]
      have sg : LandReader_takeSign tx 108 m3 = some (decide (s (i + 3) = 108), if s (i + 3) = 108 then si m3 23 0 (nI (i + 3 + 1)) else m3) := c_sign (c := 108) T3 b0 (by omega) (by omega) (by omega)
      have bh : LandReader_takeBehindLetter tx (lm i v m) = some (true, si (if s (i + 3) = 108 then si m3 23 0 (nI (i + 3 + 1)) else m3) 23 5 (bI (decide (s (i + 3) = 108)))) := by
        unfold LandReader_takeBehindLetter
        simp only [Option.bind_some]
        rw [if_neg n2', if_pos (show (lm i v m).1 23 1 = 104 from by rw [l1, e4]; rfl), d2]
        simp only [Option.bind_some, if_true]
        unfold LandReader_takeLane
        rw [sg]
        rfl
      have gz : ∀ (u : MI) (x : Int32), ag (fun a _ => a = 23) (lm i v m) u → ag (fun a _ => a = 23) (lm i v m) (si u 23 5 x) := fun u x q => ag_st q rfl
      by_cases x : s (i + 3) = 108
      · rw [if_pos x]
        rw [if_pos x, decide_eq_true x] at bh
        refine tk_fin ht hT e0 h1 hr hl bh (gz _ _ (ag_st g3 rfl)) (j := i + 4) (by rw [si_at, if_neg (by omega), si_at, if_pos rfl]) (by omega) ?_
        rw [e4]
        refine ⟨?_, fun q => absurd q (by decide), fun q => absurd q (by decide), fun _ _ => ⟨?_, ?_⟩, fun _ => ?_, fun q => absurd q (by decide)⟩
        · rw [si_at, if_neg (by omega), si_at, if_neg (by omega), b1, e4]
        · rw [si_at, if_neg (by omega), si_at, if_neg (by omega), b2]
        · rw [si_at, if_neg (by omega), si_at, if_neg (by omega), b3]
        · rw [si_at, if_pos rfl]; rfl
      · rw [if_neg x]
        rw [if_neg x, decide_eq_false x] at bh
        refine tk_fin ht hT e0 h1 hr hl bh (gz _ _ g3) (j := i + 3) (by rw [si_at, if_neg (by omega), b0]) (by omega) ?_
        rw [e4]
        refine ⟨?_, fun q => absurd q (by decide), fun q => absurd q (by decide), fun _ _ => ⟨?_, ?_⟩, fun _ => ?_, fun q => absurd q (by decide)⟩
        · rw [si_at, if_neg (by omega), b1, e4]
        · rw [si_at, if_neg (by omega), b2]
        · rw [si_at, if_neg (by omega), b3]
        · rw [si_at, if_pos rfl]; rfl
    · have n4' : ¬ (lm i v m).1 23 1 = 104 := by rw [l1]; exact ne_lit (k := 104) (by omega) (by omega) e4
      rw [if_neg e4]
      by_cases e9 : s i = 119
      · rw [if_pos e9]
        have sg : LandReader_takeSign tx 32 m3 = some (decide (s (i + 3) = 32), if s (i + 3) = 32 then si m3 23 0 (nI (i + 3 + 1)) else m3) := c_sign (c := 32) T3 b0 (by omega) (by omega) (by omega)
        have l9 : (lm i v m).1 23 1 = 119 := by rw [l1, e9]; rfl
        by_cases x : s (i + 3) = 32
        · rw [if_pos x, decide_eq_true x] at sg
          rw [if_pos x]
          have T4 : TX s tx (si m3 23 0 (nI (i + 4))) := T3.fr (ag_si rfl) ht
          obtain ⟨m5, f1, f2, f3, f4⟩ := c_fig (M := 2) (i := i + 4) ht (by omega) (by omega) T4 (by rw [si_at, if_pos rfl]) (by omega)
          have f1' : LandReader_takeFigure tx 2 (si m3 23 0 (nI (i + 3 + 1))) = some (dgt s (i + 4), m5) := f1
          have bh : LandReader_takeBehindLetter tx (lm i v m) = some (dgt s (i + 4), m5) := by
            unfold LandReader_takeBehindLetter
            simp only [Option.bind_some]
            rw [if_neg n2', if_neg n4', if_neg n12', if_pos l9, d2]
            simp only [Option.bind_some, if_true]
            rw [sg]
            simp only [Option.bind_some, if_true]
            rw [f1']
            rfl
          have g5 : ag (fun a _ => a = 23) (lm i v m) m5 := ag_tr (ag_st g3 rfl) (ag_mo f2 fun a j q => q.1)
          by_cases u : dgt s (i + 4) = true
          · rw [if_pos u]
            rw [u] at bh
            obtain ⟨f5, f6⟩ := f4 u
            have nb := nl_b s 1 (s (i + 4) - 48) (i + 5) 1 (by
              have := u
              unfold dgt at this
              have := of_decide_eq_true this
              omega)
            refine tk_fin ht hT e0 h1 hr hl bh g5 (j := (nl s 1 (s (i + 4) - 48) (i + 5)).2) f5 (by omega) ?_
            have k : ∀ j, j ≠ 0 → j ≠ 4 → m5.1 23 j = m3.1 23 j := fun j q1 q2 => by rw [f2.1 23 j (by omega), si_at, if_neg q1]
            rw [e9]
            refine ⟨?_, fun q => absurd q (by decide), fun q => absurd q (by decide), fun _ _ => ⟨?_, ?_⟩, fun q => absurd q (by decide), fun _ => f6⟩
            · rw [k 1 (by omega) (by omega), b1, e9]
            · rw [k 2 (by omega) (by omega), b2]
            · rw [k 3 (by omega) (by omega), b3]
          · rw [if_neg u]
            have u' := Bool.eq_false_iff.mpr u
            rw [u'] at bh
            exact tk_bad e0 h1 hr hl bh g5 (f3 u')
        · rw [if_neg x, decide_eq_false x] at sg
          rw [if_neg x]
          have bh : LandReader_takeBehindLetter tx (lm i v m) = some (false, m3) := by
            unfold LandReader_takeBehindLetter
            simp only [Option.bind_some]
            rw [if_neg n2', if_neg n4', if_neg n12', if_pos l9, d2]
            simp only [Option.bind_some, if_true]
            rw [sg]
            rfl
          exact tk_bad e0 h1 hr hl bh g3 b0
      · rw [if_neg e9]
        have n9' : ¬ (lm i v m).1 23 1 = 119 := by rw [l1]; exact ne_lit (k := 119) (by omega) (by omega) e9
        have bh : LandReader_takeBehindLetter tx (lm i v m) = some (true, m3) := by
          unfold LandReader_takeBehindLetter
          simp only [Option.bind_some]
          rw [if_neg n2', if_neg n4', if_neg n12', if_neg n9', d2]
          rfl
        exact tk_fin ht hT e0 h1 hr hl bh g3 (j := i + 3) b0 (by omega) ⟨b1, fun q => absurd q n2, fun q => absurd q n12, fun _ _ => ⟨b2, b3⟩, fun q => absurd q e4, fun q => absurd q e9⟩
  · have y' := Bool.eq_false_iff.mpr y
    rw [if_pos y']
    rw [show i + 1 + 1 = i + 2 from rfl, if_neg y, y'] at d2
    have bh : LandReader_takeBehindLetter tx (lm i v m) = some (false, dgm 2 (i + 1) (s (i + 1) - 48) (lm i v m)) := by
      unfold LandReader_takeBehindLetter
      simp only [Option.bind_some]
      rw [if_neg n2', d2]
      simp only [Option.bind_some, Bool.false_eq_true, if_false]
      rw [if_neg n12']
      split
      · rfl
      · split <;> rfl
    exact tk_bad e0 h1 hr hl bh g2 (dgm_0 _ _ _ _)
theorem c_takeP {s : Nat → Nat} {tx i : Nat} {m : MI} {v : Int32} (ht : 24 ≤ tx) (hT : TX s tx m) (e0 : m.1 23 0 = nI i) (hi : i < 900) (h1 : Shelf_at tx (nI i) m = some v) (hr : Rel v (s i)) (hl : isL (s i) = true) (hd : dgt s (i + 1) = true) (n12 : s i = 112) : TK s tx i m (ppe s i) := by
  have ev : v = nI (s i) := hr.2.1 (by omega)
  have g1 : ag (fun a _ => a = 23) m (lm i v m) := ag_st (ag_si rfl) rfl
  have T1 := hT.fr g1 ht
  have a1 : (lm i v m).1 23 0 = nI (i + 1) := by unfold lm; rw [si_at, if_pos rfl]
  have l1 : (lm i v m).1 23 1 = nI 112 := by unfold lm; rw [si_at, if_neg (by omega), si_at, if_pos rfl, ev, n12]
  obtain ⟨m2, f1, f2, f3, f4⟩ := c_fig (M := 3) (i := i + 1) ht (by omega) (by omega) T1 a1 (by omega)
  have f1' : LandReader_takeFigure tx 3 (lm i v m) = some (true, m2) := by rw [← hd]; exact f1
  obtain ⟨f5, f6⟩ := f4 hd
  have f5 : m2.1 23 0 = nI (nl s 2 (s (i + 1) - 48) (i + 2)).2 := f5
  have f6 : m2.1 23 4 = nI (nl s 2 (s (i + 1) - 48) (i + 2)).1 := f6
  have nb := nl_b s 2 (s (i + 1) - 48) (i + 2) 1 (by
    have := hd
    unfold dgt at this
    have := of_decide_eq_true this
    omega)
  unfold ppe
  generalize (nl s 2 (s (i + 1) - 48) (i + 2)).2 = j at f5 nb ⊢
  generalize (nl s 2 (s (i + 1) - 48) (i + 2)).1 = p at f6 nb ⊢
  have g2 : ag (fun a _ => a = 23) (lm i v m) m2 := ag_mo f2 fun a j q => q.1
  have kn := c_takeKin (s := s) (j := j) ht (T1.fr g2 ht) f5 (by omega)
  have bh : LandReader_takeBehindLetter tx (lm i v m) = LandReader_takeKin tx m2 := by
    unfold LandReader_takeBehindLetter
    simp only [Option.bind_some]
    rw [if_neg (show ¬ (lm i v m).1 23 1 = 102 from by rw [l1]; exact ne_lit (k := 102) (by omega) (by omega) (by omega)), if_neg (show ¬ (lm i v m).1 23 1 = 104 from by rw [l1]; exact ne_lit (k := 104) (by omega) (by omega) (by omega)), if_pos (show (lm i v m).1 23 1 = 112 from by rw [l1]; rfl), f1']
    simp only [Option.bind_some, if_true]
    rw [kn]
    rfl
  have b1 : m2.1 23 1 = nI 112 := by rw [f2.1 23 1 (by omega)]; exact l1
  by_cases z : s j = 107
  · rw [if_pos z] at kn ⊢
    by_cases y : dgt s (j + 1) = true
    · rw [if_pos y, y] at kn
      rw [if_pos y]
      rw [kn] at bh
      refine tk_fin ht hT e0 h1 hr hl bh (ag_tr (ag_st (ag_st g2 rfl) rfl) (dgm_ag1 _ _ _ _)) (j := j + 2) (dgm_0 _ _ _ _) (by omega) ?_
      rw [n12]
      refine ⟨?_, fun q => absurd q (by decide), fun _ => ⟨?_, ?_, fun _ => ?_⟩, fun _ q => absurd rfl q, fun q => absurd q (by decide), fun q => absurd q (by decide)⟩
      · rw [dgm_k (by omega), if_neg (by omega), si_at, if_neg (by omega), si_at, if_neg (by omega), b1]
      · rw [dgm_k (by omega), if_neg (by omega), si_at, if_neg (by omega), si_at, if_neg (by omega), f6]
      · rw [dgm_k (by omega), if_neg (by omega), si_at, if_pos rfl, decide_eq_true (show s (j + 1) - 48 + 1 ≠ 0 by omega)]
      · rw [dgm_k (by omega), if_pos rfl, Nat.add_sub_cancel]
    · have y' := Bool.eq_false_iff.mpr y
      rw [if_neg y, y'] at kn
      rw [if_neg y]
      rw [kn] at bh
      exact tk_bad e0 h1 hr hl bh (ag_st (ag_st g2 rfl) rfl) (by rw [si_at, if_neg (by omega), si_at, if_pos rfl])
  · rw [if_neg z] at kn ⊢
    rw [kn] at bh
    refine tk_fin ht hT e0 h1 hr hl bh (ag_st g2 rfl) (j := j) (by rw [si_at, if_neg (by omega), f5]) (by omega) ?_
    rw [n12]
    refine ⟨?_, fun q => absurd q (by decide), fun _ => ⟨?_, ?_, fun q => absurd rfl q⟩, fun _ q => absurd rfl q, fun q => absurd q (by decide), fun q => absurd q (by decide)⟩
    · rw [si_at, if_neg (by omega), b1]
    · rw [si_at, if_neg (by omega), f6]
    · rw [si_at, if_pos rfl]; rfl
theorem c_takeStatement {s : Nat → Nat} {tx i : Nat} {m : MI} (ht : 24 ≤ tx) (hT : TX s tx m) (e0 : m.1 23 0 = nI i) (hi : i < 900) : TK s tx i m (pst s i) := by
  obtain ⟨v, h1, hr⟩ := hT i (by omega)
  unfold pst
  by_cases hl : isL (s i) = true
  · rw [if_neg (by rw [hl]; decide)]
    have L := isL_t hl
    have ev : v = nI (s i) := hr.2.1 (by omega)
    have g1 : ag (fun a _ => a = 23) m (lm i v m) := ag_st (ag_si rfl) rfl
    have T1 := hT.fr g1 ht
    have a1 : (lm i v m).1 23 0 = nI (i + 1) := by unfold lm; rw [si_at, if_pos rfl]
    have l1 : (lm i v m).1 23 1 = nI (s i) := by unfold lm; rw [si_at, if_neg (by omega), si_at, if_pos rfl]; exact ev
    by_cases hd : dgt s (i + 1) = true
    · rw [if_neg (by rw [hd]; decide)]
      by_cases e2 : s i = 102
      · rw [if_pos e2]
        have d1 := c_dig1 (s := s) T1 a1 (show i + 1 < 1000 by omega)
        rw [if_pos hd, hd] at d1
        have bh : LandReader_takeBehindLetter tx (lm i v m) = some (true, dgm 2 (i + 1) (s (i + 1) - 48) (lm i v m)) := by
          unfold LandReader_takeBehindLetter
          simp only [Option.bind_some]
          rw [if_pos (show (lm i v m).1 23 1 = 102 from by rw [l1, e2]; rfl), d1]
          rfl
        refine tk_fin ht hT e0 h1 hr hl bh (dgm_ag1 _ _ _ _) (j := i + 2) (dgm_0 _ _ _ _) (by omega) ?_
        rw [e2]
        refine ⟨?_, fun _ => ?_, fun q => absurd q (by decide), fun q => absurd rfl q, fun q => absurd q (by decide), fun q => absurd q (by decide)⟩
        · rw [dgm_k (by omega), if_neg (by omega), l1, e2]
        · rw [dgm_k (by omega), if_pos rfl]
      · rw [if_neg e2]
        by_cases e12 : s i = 112
        · rw [if_pos e12]; exact c_takeP ht hT e0 hi h1 hr hl hd e12
        · rw [if_neg e12]; exact c_take2 ht hT e0 hi h1 hr hl hd e2 e12
    · have hd' := Bool.eq_false_iff.mpr hd
      rw [if_pos hd']
      have d1 := c_dig1 (s := s) T1 a1 (show i + 1 < 1000 by omega)
      rw [if_neg hd, hd'] at d1
      have d2 := c_dig2 (s := s) T1 ht a1 (show i + 1 + 1 < 1000 by omega)
      rw [if_neg hd, hd', Bool.false_and] at d2
      obtain ⟨m2, f1, f2, f3, _⟩ := c_fig (M := 3) (i := i + 1) ht (by omega) (by omega) T1 a1 (by omega)
      have f1' : LandReader_takeFigure tx 3 (lm i v m) = some (false, m2) := by rw [← hd']; exact f1
      by_cases e12 : s i = 112
      · have bh : LandReader_takeBehindLetter tx (lm i v m) = some (false, m2) := by
          unfold LandReader_takeBehindLetter
          simp only [Option.bind_some]
          rw [if_neg (show ¬ (lm i v m).1 23 1 = 102 from by rw [l1]; exact ne_lit (k := 102) (by omega) (by omega) (by omega)), if_neg (show ¬ (lm i v m).1 23 1 = 104 from by rw [l1]; exact ne_lit (k := 104) (by omega) (by omega) (by omega)), if_pos (show (lm i v m).1 23 1 = 112 from by rw [l1, e12]; rfl), f1']
          rfl
        exact tk_bad e0 h1 hr hl bh (ag_mo f2 fun a j q => q.1) (f3 hd')
      · have n12' : ¬ (lm i v m).1 23 1 = 112 := by rw [l1]; exact ne_lit (k := 112) (by omega) (by omega) e12
        have bh : LandReader_takeBehindLetter tx (lm i v m) = some (false, lm i v m) := by
          unfold LandReader_takeBehindLetter
          simp only [Option.bind_some]
          rw [d1, d2]
          simp only [Option.bind_some, Bool.false_eq_true, if_false]
          rw [if_neg n12']
          split
          · rfl
          · split
            · rfl
            · split <;> rfl
        exact tk_bad e0 h1 hr hl bh (ag_rf _ _) a1
  · have hl' := Bool.eq_false_iff.mpr hl
    rw [if_pos hl']
    refine ⟨si m 23 1 v, ?_, ag_si rfl, ?_, fun q => by cases q⟩
    · unfold LandReader_takeStatement
      rw [e0, h1]
      simp only [Option.bind_some, stF]
      rw [c_isLetter hr (by rw [si_at, if_pos rfl]), hl']
      rfl
    · rw [si_at, if_neg (by omega)]; exact e0
