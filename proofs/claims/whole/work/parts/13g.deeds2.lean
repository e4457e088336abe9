theorem c_clashesOf {A : LV} {m : MI} {s z n : Nat} (h : CR 1 A m) (w : WF A) (e2 : m.1 s 2 = nI z) (hz : z ≤ 100) (hn8 : n ≤ 8) (hnz : 3 * n ≤ z) (en : m.1 36 0 = nI n) (gd : ∀ i, i < n → dGd A (m.1 (s + 2)) i = true) {i : Nat} (hi : i < n) : DeedBook_clashesOf 1 s (nI i) m = some (nI (bs (clsh A (m.1 (s + 2)) i) n)) := by
  unfold DeedBook_clashesOf
  have key : lp (DeedBook_clashesOf_s1 m 1 s (nI i)) FUEL (0, 0) = some (nI (bs (clsh A (m.1 (s + 2)) i) n)) := by
    refine lp_seq (fun k => (nI (bs (clsh A (m.1 (s + 2)) i) k), nI k)) n (by omega) (fun j hj => ?_) ?_
    · simp only [DeedBook_clashesOf_s1, en, if_pos (nI_lt hj (show n < 2 ^ 31 by omega)), li_3, pk_mul, c_clash h w e2 hz (show 3 * i + 2 < z by omega) (show 3 * j + 2 < z by omega) (gd i hi) (gd j hj), Option.bind_some, li_1, li_0, sh1 (show j < 29 by omega), bs]
      cases clsh A (m.1 (s + 2)) i j <;> simp [fa_or, nI_add]
    · simp only [DeedBook_clashesOf_s1, en, if_neg (nI_nlt (Nat.le_refl n) (show n < 2 ^ 31 by omega))]
  rw [key]; rfl
theorem c_write {A : LV} {m : MI} {s z : Nat} (hs : 38 ≤ s) (h : CR 1 A m) (w : WF A) (e2 : m.1 s 2 = nI z) (hz : z ≤ 100) : ∃ b m', DeedBook_write 1 s m = some (b, m') ∧ ag pC m m' ∧ b = (decide (z % 3 = 0) && decide (z / 3 ≤ 8) && al (dGd A (m.1 (s + 2))) (z / 3)) ∧ (b = true → m'.1 36 0 = nI (z / 3) ∧ ∀ i, i < z / 3 → m'.1 37 i = nI (bs (clsh A (m.1 (s + 2)) i) (z / 3))) := by
  unfold DeedBook_write
  rw [e2]
  have d3 : nI z / 3 = nI (z / 3) := pk_div (d := 3) (by omega) (by omega) (by omega)
  have r3 : rm32 (nI z) 3 = nI (z % 3) := rm_n (b := 3) (by omega) (by omega) (by omega)
  rw [r3, d3]
  have ec : (if nI (z % 3) ≠ 0 then some true else some (decide (8 < nI (z / 3)))) = some (!(decide (z % 3 = 0) && decide (z / 3 ≤ 8))) := by
    by_cases g : z % 3 = 0
    · rw [if_neg (by rw [g]; exact fun q => q rfl), decide_eq_true g, Bool.true_and, ← decide_not]
      congr 1
      apply decide_eq_decide.mpr
      rw [li_8, nI_ltI (by omega) (by omega)]; omega
    · rw [if_pos (by rw [li_0, ne_eq, nI_eq (by omega) (by omega)]; exact g), decide_eq_false g]; rfl
  rw [ec]
  cases gc : (decide (z % 3 = 0) && decide (z / 3 ≤ 8))
  · exact ⟨false, m, rfl, ag_rf _ _, by simp, fun q => by cases q⟩
  rw [Bool.and_eq_true, decide_eq_true_eq, decide_eq_true_eq] at gc
  obtain ⟨g1, g2⟩ := gc
  generalize hnn : z / 3 = n at g2 ⊢
  have hz3 : z = 3 * n := by omega
  have a0 : ag pC m (si m 36 0 (nI n)) := ag_si (Or.inr (by omega))
  have h1 : CR 1 A (si m 36 0 (nI n)) := h.sx (by omega)
  have e36 : (si m 36 0 (nI n)).1 36 0 = nI n := by rw [si_v, if_pos ⟨rfl, rfl⟩]
  have es2 : (si m 36 0 (nI n)).1 s 2 = nI z := by rw [si_v, if_neg (by omega)]; exact e2
  have ee : (si m 36 0 (nI n)).1 (s + 2) = m.1 (s + 2) := si_ne (by omega)
  simp only [Bool.not_true, Option.bind_some, Bool.false_eq_true, if_false, stF]
  generalize si m 36 0 (nI n) = m1 at a0 h1 e36 es2 ee ⊢
  have at_ : ∀ k, k < z → Shelf_at s (nI k) m1 = some (m.1 (s + 2) k) := fun k hk => by
    rw [c_at es2 hz, inR_n (by omega), decide_eq_true hk, if_pos rfl, nI_clamp (by omega), ee]
  have told : ∀ i, i < n → DeedBook_isAsTold 1 s (nI (3 * i)) m1 = some (dGd A (m.1 (s + 2)) i) := fun i hi => by
    unfold DeedBook_isAsTold dGd
    have r9 : (if 0 ≤ m.1 (s + 2) (3 * i + 2) then some (decide (m.1 (s + 2) (3 * i + 2) ≤ 9)) else some false) = some (inR (m.1 (s + 2) (3 * i + 2)) 10) := by
      unfold inR
      have e1 : ((0 : Int32) ≤ m.1 (s + 2) (3 * i + 2)) = (0 ≤ (m.1 (s + 2) (3 * i + 2)).toInt) := by rw [Int32.le_iff_toInt_le]; rfl
      have e3 : (m.1 (s + 2) (3 * i + 2) ≤ (9 : Int32)) = ((m.1 (s + 2) (3 * i + 2)).toInt ≤ 9) := by rw [Int32.le_iff_toInt_le]; rfl
      simp only [e1, e3]
      by_cases q1 : 0 ≤ (m.1 (s + 2) (3 * i + 2)).toInt
      · simp only [if_pos q1]; congr 1; apply decide_eq_decide.mpr; omega
      · simp only [if_neg q1]; congr 1; symm; apply decide_eq_false; omega
    rw [li_2, nI_add, li_1, nI_add, at_ (3 * i) (by omega), at_ (3 * i + 1) (by omega), at_ (3 * i + 2) (by omega)]
    simp only [Option.bind_some, c_isPerson h1 w, c_isField h1 w, r9]
    cases inR (m.1 (s + 2) (3 * i)) A.p <;> cases inR (m.1 (s + 2) (3 * i + 1)) A.n <;> cases inR (m.1 (s + 2) (3 * i + 2)) 10 <;> simp
  have k1 := lp_find (step := DeedBook_write_s1 m1 1 s) (fun k => nI k) (fun i => !(dGd A (m.1 (s + 2)) i)) (.inl ()) (fun _ => .inr (false, m1)) n (by omega) (fun k hk hp => by
    simp only [DeedBook_write_s1, e36, if_pos (nI_lt hk (show n < 2 ^ 31 by omega)), li_3, pk_mul, told k hk, Option.bind_some, li_1, nI_add]
    cases q : dGd A (m.1 (s + 2)) k
    · rw [q] at hp; cases hp
    · rfl) (fun k hk hp => by
    simp only [DeedBook_write_s1, e36, if_pos (nI_lt hk (show n < 2 ^ 31 by omega)), li_3, pk_mul, told k hk, Option.bind_some, li_1, nI_add]
    cases q : dGd A (m.1 (s + 2)) k
    · rfl
    · rw [q] at hp; cases hp) (by
    simp only [DeedBook_write_s1, e36, if_neg (nI_nlt (Nat.le_refl n) (show n < 2 ^ 31 by omega))])
  rw [show (nI 0 : Int32) = 0 from rfl] at k1
  rcases k1 with ⟨k, hk, hp, _, e⟩ | ⟨hall, e⟩
  · rw [e]
    refine ⟨false, m1, rfl, a0, ?_, fun q => by cases q⟩
    have : al (dGd A (m.1 (s + 2))) n = false := by
      cases q : al (dGd A (m.1 (s + 2))) n
      · rfl
      · rw [al_iff.mp q k hk] at hp; cases hp
    rw [this, Bool.and_false]
  · have gd : ∀ i, i < n → dGd A (m.1 (s + 2)) i = true := fun i hi => by
      have := hall i hi
      cases q : dGd A (m.1 (s + 2)) i
      · rw [q] at this; cases this
      · rfl
    rw [e]
    simp only [Option.bind_some, Sum.elim_inl]
    obtain ⟨m2, e2', h2, h3, h4⟩ := lp_m (step := DeedBook_write_s2 1 s) (fun k t => ag pC m t ∧ t.1 36 0 = nI n ∧ ∀ i, i < k → t.1 37 i = nI (bs (clsh A (m.1 (s + 2)) i) n)) n (by omega) (μ := m1) ⟨a0, e36, fun i hi => absurd hi (Nat.not_lt_zero _)⟩ (fun k t hk ⟨q1, q2, q3⟩ => by
      have ht : CR 1 A t := h.tg q1 (fun a j z1 z2 z3 => by unfold pC at z3; omega)
      have et2 : t.1 s 2 = nI z := (q1.1 _ _ (by unfold pC; omega)).trans e2
      have ete : t.1 (s + 2) = m.1 (s + 2) := funext fun j => q1.1 _ _ (by unfold pC; omega)
      have cc := c_clashesOf ht w et2 hz g2 (by omega) q2 (by rw [ete]; exact gd) hk
      rw [ete] at cc
      refine ⟨si t 37 k (nI (bs (clsh A (m.1 (s + 2)) k) n)), ?_, ag_st q1 (Or.inr (by omega)), ?_, fun i hi => ?_⟩
      · simp only [DeedBook_write_s2, q2, if_pos (nI_lt hk (show n < 2 ^ 31 by omega)), li_8, Option.bind_some, decide_eq_true (nI_lt (show k < 8 by omega) (show 8 < 2 ^ 31 by omega)), if_true, cc, stA_n (show k < 8 by omega) (show 8 ≤ 5000 by omega), li_1, nI_add]
      · rw [si_v, if_neg (by omega)]; exact q2
      · rw [si_at]
        by_cases q : i = k
        · rw [if_pos q, q]
        · rw [if_neg q, q3 i (by omega)]) (fun t ⟨q1, q2, q3⟩ => by
      simp only [DeedBook_write_s2, q2, if_neg (nI_nlt (Nat.le_refl n) (show n < 2 ^ 31 by omega)), Option.bind_some, Bool.false_eq_true, if_false])
    rw [e2']
    refine ⟨true, m2, rfl, h2, ?_, fun _ => ⟨h3, h4⟩⟩
    rw [al_iff.mpr gd]; rfl
theorem c_stand {A : LV} {m : MI} {e : Nat → Int32} {n : Nat} (w : WF A) (hn : n ≤ 8) (e0 : m.1 36 0 = nI n) (e1 : ∀ i, i < n → m.1 37 i = nI (bs (clsh A e i) n)) {s : Nat} (hs : s < 256) : DeedBook_canStandWithout (nI s) m = some (dOk A e n s) := by
  unfold DeedBook_canStandWithout
  have t8 := two_le8 hn
  have hb : ∀ i, bs (clsh A e i) n < 256 := fun i => Nat.lt_of_lt_of_le (bs_lt _ _) t8
  have hx : ∀ i, (bs (clsh A e i) n &&& (bs (clsh A e i) n ^^^ s)) < 2 ^ 31 := fun i => by
    have := hb i
    have h1 : (bs (clsh A e i) n &&& (bs (clsh A e i) n ^^^ s)) ≤ bs (clsh A e i) n := Nat.and_le_left
    omega
  have k1 := lp_find (step := DeedBook_canStandWithout_s1 m (nI s)) (fun k => nI k) (fun i => !(s.testBit i) && !decide (nI (bs (clsh A e i) n &&& (bs (clsh A e i) n ^^^ s)) = nI 0)) (.inl ()) (fun _ => .inr false) n (by omega) (fun k hk hp => by
    simp only [DeedBook_canStandWithout_s1, e0, if_pos (nI_lt hk (show n < 2 ^ 31 by omega)), li_8, Option.bind_some, decide_eq_true (nI_lt (show k < 8 by omega) (show 8 < 2 ^ 31 by omega)), if_true, li_1, li_0, tbv0 (show s < 2 ^ 31 by omega) (show k < 31 by omega), ldA_n (show k < 8 by omega) (show 8 ≤ 5000 by omega), e1 k hk, andn_1, nI_add]
    cases ts : s.testBit k
    · rw [ts] at hp
      simp only [Bool.not_false, Bool.true_and, Bool.not_eq_false', decide_eq_true_eq] at hp
      simp [hp]
    · simp) (fun k hk hp => by
    simp only [DeedBook_canStandWithout_s1, e0, if_pos (nI_lt hk (show n < 2 ^ 31 by omega)), li_8, Option.bind_some, decide_eq_true (nI_lt (show k < 8 by omega) (show 8 < 2 ^ 31 by omega)), if_true, li_1, li_0, tbv0 (show s < 2 ^ 31 by omega) (show k < 31 by omega), ldA_n (show k < 8 by omega) (show 8 ≤ 5000 by omega), e1 k hk, andn_1, nI_add]
    cases ts : s.testBit k
    · rw [ts] at hp
      simp only [Bool.not_false, Bool.true_and, Bool.not_eq_true', decide_eq_false_iff_not] at hp
      simp [hp]
    · rw [ts] at hp
      simp at hp) (by
    simp only [DeedBook_canStandWithout_s1, e0, if_neg (nI_nlt (Nat.le_refl n) (show n < 2 ^ 31 by omega)), Option.bind_some, Bool.false_eq_true, if_false])
  rw [show (nI 0 : Int32) = 0 from rfl] at k1
  rcases k1 with ⟨k, hk, hp, _, q⟩ | ⟨hall, q⟩
  · rw [q]
    show some false = _
    congr 1
    symm
    cases hd : dOk A e n s
    · rfl
    · exfalso
      rw [dOk_iff w] at hd
      rw [Bool.and_eq_true, Bool.not_eq_true', Bool.not_eq_true', decide_eq_false_iff_not] at hp
      apply hp.2
      show nI _ = nI 0
      rw [z_tb (hx k)]
      intro i hi
      rw [andn_tb, bs_tb]
      by_cases g : i < n
      · cases ti : s.testBit i
        · rw [hd k i hk g hp.1 ti]; simp
        · simp
      · simp [g]
  · rw [q]
    show some true = _
    congr 1
    symm
    rw [dOk_iff w]
    intro i j hi hj ti tj
    have := hall i hi
    rw [ti] at this
    simp only [Bool.not_false, Bool.true_and, Bool.not_eq_false', decide_eq_true_eq] at this
    have := (z_tb (hx i)).mp this j (by omega)
    rw [andn_tb, bs_tb, decide_eq_true hj, tj] at this
    simpa using this
theorem c_fewest {A : LV} {m : MI} {e : Nat → Int32} {n : Nat} (w : WF A) (hn : n ≤ 8) (e0 : m.1 36 0 = nI n) (e1 : ∀ i, i < n → m.1 37 i = nI (bs (clsh A e i) n)) : DeedBook_fewestStruck m = some (nI (dm A e n (2 ^ n))) := by
  have t8 := two_le8 hn
  have tp := Nat.two_pow_pos n
  unfold DeedBook_fewestStruck
  rw [e0, li_1, sh1 (by omega), pk_sub (by omega)]
  simp only [Option.bind_some]
  have key : lp (DeedBook_fewestStruck_s1 m) FUEL (nI (2 ^ n - 1), 0) = some (nI (dm A e n (2 ^ n))) := by
    refine lp_seq (fun k => (nI (dm A e n k), nI k)) (2 ^ n) (by omega) (fun k hk => ?_) ?_
    · have d1 := dm_lt A e hn k (by omega)
      have p1 := popc_le k
      have p2 := popc_le (dm A e n k)
      have el : (bc (nI k) < bc (nI (dm A e n k))) ↔ popc k < popc (dm A e n k) := by
        rw [bc_v k (by omega), bc_v _ d1, nI_ltI (by omega) (by omega)]
      have ed : dm A e n (k + 1) = if (decide (popc k < popc (dm A e n k)) && dOk A e n k) = true then k else dm A e n k := rfl
      simp only [DeedBook_fewestStruck_s1, e0, li_1, sh1 (show n < 29 by omega), if_pos (nI_lt hk (show 2 ^ n < 2 ^ 31 by omega)), c_stand w hn e0 e1 (show k < 256 by omega), el, Option.bind_some, nI_add, ed]
      by_cases g : popc k < popc (dm A e n k)
      · cases dOk A e n k <;> simp [g]
      · simp [g]
    · simp only [DeedBook_fewestStruck_s1, e0, li_1, sh1 (show n < 29 by omega), if_neg (nI_nlt (Nat.le_refl (2 ^ n)) (show 2 ^ n < 2 ^ 31 by omega))]
  rw [show (0 : Int32) = 0 from rfl, key]; rfl
theorem L_21N {A : LV} {μ : MI} {s z : Nat} (hs : 38 ≤ s) (h : CR 1 A μ) (w : WF A) (e2 : μ.1 s 2 = nI z) (hz : z ≤ 100) (x : Int32) : ∃ m, (((DeedBook_write 1 s μ).bind fun (q : Bool × MI) => if q.1 = true then ((DeedBook_fewestStruck q.2).bind fun r26 => (if x = 0 then some r26 else some (bc r26) : Option Int32).bind fun x29 => some (x29, q.2)) else some ((-13), q.2)) : Option (Int32 × MI)) = some (sDeeds A (μ.1 (s + 2)) z x, m) ∧ ag pC μ m := by
  obtain ⟨b, m, e1, g, e3, e4⟩ := c_write hs h w e2 hz
  refine ⟨m, ?_, g⟩
  rw [e1]
  unfold sDeeds
  rw [← e3]
  cases b
  · rfl
  · have hc := e3.symm
    rw [Bool.and_eq_true, Bool.and_eq_true, decide_eq_true_eq, decide_eq_true_eq] at hc
    have n8 : z / 3 ≤ 8 := hc.1.2
    obtain ⟨k0, k1⟩ := e4 rfl
    have d1 := dm_lt A (μ.1 (s + 2)) n8 (2 ^ (z / 3)) (Nat.le_refl _)
    simp only [Option.bind_some, if_true, c_fewest w n8 k0 k1, bc_v _ d1]
    by_cases g : x = 0 <;> simp [g]
theorem L_21M {A : LV} {m : MI} {d z : Nat} {e : Nat → Int32} (hd : d < 8) (h : MR A m) (w : WF A) (hz : z ≤ 100) (e9 : m.1 89 d = nI z) (he : ∀ i, i < 100 → m.2 90 (100 * d + i) = (e i).toInt64) (x : Int32) : (((ldA 8 m 89 (nI d)).bind fun x26 => (some (x26 / 3) : Option Int32).bind fun n29 => ((ldA 8 m 89 (nI d)).bind fun x38 => if rm32 x38 3 = 0 then some (decide (n29 ≤ 8)) else some false).bind fun c32 => (lp (M_deeds_s1 n29 (nI d) m) FUEL (c32, 0)).bind fun good49 => if good49 = true then ((some ((1 <<< (n29 &&& 31)) - 1) : Option Int32).bind fun best95 => (lp (M_deeds_s2 n29 (nI d) m) FUEL (best95, 0)).bind fun best104 => (if x = 0 then some best104 else ((M_ones best104).bind fun r189 => some r189) : Option Int32).bind fun x183 => some (x183, m)) else some ((-13), m)) : Option (Int32 × MI)) = some (sDeeds A e z x, m) := by
  have hn := w.n6
  have hp := w.p3
  have d3 : nI z / 3 = nI (z / 3) := pk_div (d := 3) (by omega) (by omega) (by omega)
  have r3 : rm32 (nI z) 3 = nI (z % 3) := rm_n (b := 3) (by omega) (by omega) (by omega)
  rw [ldA_n hd (by omega), e9]
  simp only [Option.bind_some, d3, r3]
  have ec : (if nI (z % 3) = 0 then some (decide (nI (z / 3) ≤ 8)) else some false) = some (decide (z % 3 = 0) && decide (z / 3 ≤ 8)) := by
    by_cases g : z % 3 = 0
    · rw [if_pos (by rw [g]; rfl), decide_eq_true g, Bool.true_and]
      congr 1
      apply decide_eq_decide.mpr
      rw [li_8, nI_leI (by omega) (by omega)]
    · rw [if_neg (by rw [li_0, nI_eq (by omega) (by omega)]; exact g), decide_eq_false g]; rfl
  rw [ec]
  simp only [Option.bind_some]
  have s1 : ∃ o, lp (M_deeds_s1 (nI (z / 3)) (nI d) m) FUEL ((decide (z % 3 = 0) && decide (z / 3 ≤ 8)), 0) = some o ∧ o = (decide (z % 3 = 0) && decide (z / 3 ≤ 8) && al (dGd A e) (z / 3)) := by
    refine lp_inv (step := M_deeds_s1 (nI (z / 3)) (nI d) m) (s := ((decide (z % 3 = 0) && decide (z / 3 ≤ 8)), 0)) (fun k t => t.1 = (decide (z % 3 = 0) && decide (z / 3 ≤ 8) && al (dGd A e) k) ∧ t.2 = nI k) (fun o => o = (decide (z % 3 = 0) && decide (z / 3 ≤ 8) && al (dGd A e) (z / 3))) (z / 3) (by omega) ⟨by simp [al], rfl⟩ ?_ ?_
    · rintro k ⟨c, i⟩ hk ⟨t1, t2⟩
      simp only at t1 t2; subst t2
      cases c
      · refine Or.inr ⟨false, ?_, ?_⟩
        · simp only [M_deeds_s1, if_pos (nI_lt hk (show z / 3 < 2 ^ 31 by omega)), Option.bind_some, Bool.false_eq_true, if_false]
        · cases g : (decide (z % 3 = 0) && decide (z / 3 ≤ 8))
          · rfl
          · rw [g, Bool.true_and] at t1
            rw [Bool.true_and]; exact (al_down t1.symm (by omega)).symm
      · refine Or.inl ⟨(dGd A e k, nI (k + 1)), ?_, ?_, rfl⟩
        · have l0 : ldL 800 m 90 (nI (100 * d + 3 * k)) = some (e (3 * k)).toInt64 := by rw [ldL_n (by omega) (by omega), he _ (by omega)]
          have l1 : ldL 800 m 90 (nI (100 * d + 3 * k + 1)) = some (e (3 * k + 1)).toInt64 := by rw [ldL_n (by omega) (by omega), Nat.add_assoc, he _ (by omega)]
          have l2 : ldL 800 m 90 (nI (100 * d + 3 * k + 2)) = some (e (3 * k + 2)).toInt64 := by rw [ldL_n (by omega) (by omega), Nat.add_assoc, he _ (by omega)]
          simp only [M_deeds_s1, if_pos (nI_lt hk (show z / 3 < 2 ^ 31 by omega)), Option.bind_some, if_true, h.hn, h.hp]
          rw [li_100, li_3, pk_mul, pk_mul, nI_add, l0, show nI (100 * d + 3 * k) + 1 = nI (100 * d + 3 * k + 1) from by rw [li_1, nI_add], show nI (100 * d + 3 * k) + 2 = nI (100 * d + 3 * k + 2) from by rw [li_2, nI_add], l1, l2]
          simp only [Option.bind_some, M_in_n _ (show A.p < 2 ^ 30 by omega), M_in_n _ (show A.n < 2 ^ 30 by omega), M_in9]
          rw [show nI k + 1 = nI (k + 1) from by rw [li_1, nI_add]]
          unfold dGd
          cases inR (e (3 * k)) A.p <;> cases inR (e (3 * k + 1)) A.n <;> cases inR (e (3 * k + 2)) 10 <;> simp
        · have t1 := t1.symm
          rw [Bool.and_eq_true] at t1
          show dGd A e k = (_ && (al (dGd A e) k && dGd A e k))
          rw [t1.1, t1.2]; simp
    · rintro ⟨c, i⟩ ⟨t1, t2⟩
      simp only at t1 t2; subst t2
      refine ⟨c, ?_, t1⟩
      simp only [M_deeds_s1, if_neg (nI_nlt (Nat.le_refl (z / 3)) (show z / 3 < 2 ^ 31 by omega)), Option.bind_some, Bool.false_eq_true, if_false]
  obtain ⟨o, o1, o2⟩ := s1
  rw [o1]
  unfold sDeeds
  rw [← o2]
  cases o
  · rfl
  have hc := o2.symm
  rw [Bool.and_eq_true, Bool.and_eq_true, decide_eq_true_eq, decide_eq_true_eq, al_iff] at hc
  obtain ⟨⟨hz3, n8⟩, gd⟩ := hc
  generalize hnn : z / 3 = n at n8 gd ⊢
  have hzn : z = 3 * n := by omega
  have t8 := two_le8 n8
  have tp := Nat.two_pow_pos n
  have s4 : ∀ s i c, s < 256 → i < n → lp (M_deeds_s4 (nI i) (nI s) (nI d) m) FUEL (c, 0) = some (c && al (fun j => !(!(s.testBit i) && !(s.testBit j) && clsh A e i j)) i) := by
    intro s i c hs hi
    have k := lp_seq (step := M_deeds_s4 (nI i) (nI s) (nI d) m) (fun k => (c && al (fun j => !(!(s.testBit i) && !(s.testBit j) && clsh A e i j)) k, nI k)) i (by omega) (r := c && al (fun j => !(!(s.testBit i) && !(s.testBit j) && clsh A e i j)) i) (fun j hj => by
      simp only [M_deeds_s4, if_pos (nI_lt hj (show i < 2 ^ 31 by omega)), li_1, li_0, tbv0 (show s < 2 ^ 31 by omega) (show i < 31 by omega), tbv0 (show s < 2 ^ 31 by omega) (show j < 31 by omega), m_clash hd h w he (show 3 * i + 2 < 100 by omega) (show 3 * j + 2 < 100 by omega) (gd i hi) (gd j (by omega)), Option.bind_some, nI_add, al]
      cases c <;> cases al (fun j => !(!(s.testBit i) && !(s.testBit j) && clsh A e i j)) j <;> cases s.testBit i <;> cases s.testBit j <;> cases clsh A e i j <;> simp) (by
      simp only [M_deeds_s4, if_neg (nI_nlt (Nat.le_refl i) (show i < 2 ^ 31 by omega))])
    rw [show (c && al (fun j => !(!(s.testBit i) && !(s.testBit j) && clsh A e i j)) 0) = c from by simp [al]] at k
    exact k
  have s3 : ∀ s c, s < 256 → ∃ o, lp (M_deeds_s3 (nI n) (nI s) (nI d) m) FUEL (c, 0) = some o ∧ o = (c && dOk A e n s) := by
    intro s c hs
    refine lp_inv (step := M_deeds_s3 (nI n) (nI s) (nI d) m) (s := (c, 0)) (fun k t => t.1 = (c && al (fun i => al (fun j => !(!(s.testBit i) && !(s.testBit j) && clsh A e i j)) i) k) ∧ t.2 = nI k) (fun o => o = (c && dOk A e n s)) n (by omega) ⟨by simp [al], rfl⟩ ?_ ?_
    · rintro k ⟨b, i⟩ hk ⟨t1, t2⟩
      simp only at t1 t2; subst t2
      cases b
      · refine Or.inr ⟨false, ?_, ?_⟩
        · simp only [M_deeds_s3, if_pos (nI_lt hk (show n < 2 ^ 31 by omega)), Option.bind_some, Bool.false_eq_true, if_false]
        · cases c
          · rfl
          · rw [Bool.true_and] at t1 ⊢; exact (al_down t1.symm (by omega)).symm
      · have q := s4 s k true hs hk
        refine Or.inl ⟨(al (fun j => !(!(s.testBit k) && !(s.testBit j) && clsh A e k j)) k, nI (k + 1)), ?_, ?_, rfl⟩
        · simp only [M_deeds_s3, if_pos (nI_lt hk (show n < 2 ^ 31 by omega)), Option.bind_some, if_true]
          rw [q]
          simp only [Option.bind_some, Bool.true_and, li_1, nI_add]
        · have t1 := t1.symm
          rw [Bool.and_eq_true] at t1
          show _ = (c && (al _ k && _))
          rw [t1.1, t1.2]; simp
    · rintro ⟨b, i⟩ ⟨t1, t2⟩
      simp only at t1 t2; subst t2
      refine ⟨b, ?_, t1⟩
      simp only [M_deeds_s3, if_neg (nI_nlt (Nat.le_refl n) (show n < 2 ^ 31 by omega)), Option.bind_some, Bool.false_eq_true, if_false]
  have s2 : lp (M_deeds_s2 (nI n) (nI d) m) FUEL (nI (2 ^ n - 1), 0) = some (nI (dm A e n (2 ^ n))) := by
    refine lp_seq (fun k => (nI (dm A e n k), nI k)) (2 ^ n) (by omega) (fun k hk => ?_) ?_
    · have d1 := dm_lt A e n8 k (by omega)
      have p1 := popc_le k
      have p2 := popc_le (dm A e n k)
      have ed : dm A e n (k + 1) = if (decide (popc k < popc (dm A e n k)) && dOk A e n k) = true then k else dm A e n k := rfl
      have el : decide (nI (popc k) < nI (popc (dm A e n k))) = decide (popc k < popc (dm A e n k)) := decide_eq_decide.mpr (nI_ltI (by omega) (by omega))
      obtain ⟨o, o1, o2⟩ := s3 k (decide (popc k < popc (dm A e n k))) (by omega)
      simp only [M_deeds_s2, li_1, sh1 (show n < 29 by omega), if_pos (nI_lt hk (show 2 ^ n < 2 ^ 31 by omega)), m_ones (show k < 256 by omega), m_ones d1, Option.bind_some, el]
      rw [o1, ed, ← o2]
      cases o <;> simp [nI_add]
    · simp only [M_deeds_s2, li_1, sh1 (show n < 29 by omega), if_neg (nI_nlt (Nat.le_refl (2 ^ n)) (show 2 ^ n < 2 ^ 31 by omega))]
  have d1 := dm_lt A e n8 (2 ^ n) (Nat.le_refl _)
  simp only [Option.bind_some, if_true, li_1, sh1 (show n < 29 by omega), pk_sub (show 1 ≤ 2 ^ n by omega), s2, m_ones d1]
  by_cases g : x = 0 <;> simp [g]
theorem L_21 {μ : MI} (h : INV μ) (x y : Int32) : ∃ μ', Lc_21 x y μ = some μ' ∧ INV μ' := by
  have g0 : INV (si μ 62 10 (nI 0)) := Lc_same h (ag_rf _ _) (ag_62 (by omega))
  have r1 := rng_c (x := y) (c := 1) (by omega)
  rw [show (nI 0 : Int32) = 0 from rfl, show (nI 1 : Int32) = 1 from rfl] at r1
  have r85 : (si μ 62 10 (nI 0)).1 85 = μ.1 85 := si_ne (by omega)
  have r88 : (si μ 62 10 (nI 0)).1 88 = μ.1 88 := si_ne (by omega)
  have n0 : ¬ ((0 : Int32) ≠ 0) := fun e => e rfl
  have n1 : ¬ ((0 : Int32) < 0) := by decide
  have n2 : decide ((-1 : Int32) < 0) = true := by decide
  have both : ∃ r μ1 μ2, N_deeds x y μ = some (r, μ1) ∧ M_deeds x y μ1 = some (r, μ2) ∧ INV μ2 := by
    cases hy : inR y 2
    · refine ⟨-1, μ, si μ 62 10 (nI 0), ?_, ?_, g0⟩
      · unfold N_deeds
        rcases bytes_cases h x with ⟨b1, b2⟩ | ⟨d, r, hd, rfl, hr, b1, b2, b3⟩ | ⟨d, z, hd, rfl, hz, b1, b2, b3, b4, b5, b6, b7⟩
        · rw [b1]; rfl
        · rw [b1, onN_1, r1, hy]; rfl
        · rw [b1, onN_1, r1, hy]; rfl
      · unfold M_deeds
        simp only [thr0, Option.bind_some, M_in1, hy, Bool.false_eq_true, if_false, if_true]
    rcases bytes_cases h x with ⟨b1, b2⟩ | ⟨d, r, hd, rfl, hr, b1, b2, b3⟩ | ⟨d, z, hd, rfl, hz, b1, b2, b3, b4, b5, b6, b7⟩
    · refine ⟨-1, μ, si μ 62 10 (nI 0), ?_, ?_, g0⟩
      · unfold N_deeds
        rw [b1]; rfl
      · unfold M_deeds
        simp only [thr0, Option.bind_some, M_in1, hy, if_true, b2, n2]
    · refine ⟨r, μ, si μ 62 10 (nI 0), ?_, ?_, g0⟩
      · unfold N_deeds
        have r0 : r ≠ 0 := fun e => by rw [e] at hr; exact absurd hr (by decide)
        rw [b1, onN_1, r1, hy]
        simp only [Bool.not_true, Option.bind_some, Bool.false_eq_true, if_false, b2, if_pos r0]
      · unfold M_deeds
        simp only [thr0, Option.bind_some, M_in1, hy, if_true, b3 _ (congrFun r85 d) (congrFun r88 d), decide_eq_true hr]
    · obtain ⟨A, w, co, k1, k2⟩ := h.1
      obtain ⟨m, e1, g1⟩ := L_21N (s := 38 + 3 * d) (by omega) k1 w b4 hz y
      have g1' : ag pM m (si m 62 10 (nI 0)) := ag_62 (by omega)
      have k2' : MR A (si m 62 10 (nI 0)) := (k2.agC g1).agM g1'
      have c : ∀ a j, 38 ≤ a → a ≠ 62 → (si m 62 10 (nI 0)).1 a j = μ.1 a j := fun a j q1 q2 => by rw [si_ne q2]; exact g1.1 a j (by unfold pC; omega)
      have e2 := L_21M (e := μ.1 (38 + 3 * d + 2)) hd k2' w hz ((c 89 d (by omega) (by omega)).trans b5) (fun i hi => by rw [si_2, g1.2]; exact b6 i hi) y
      refine ⟨sDeeds A (μ.1 (38 + 3 * d + 2)) z y, m, si m 62 10 (nI 0), ?_, ?_, Lc_same h g1 g1'⟩
      · unfold N_deeds
        rw [b1, onN_1, r1, hy]
        simp only [Bool.not_true, Option.bind_some, Bool.false_eq_true, if_false, b2, if_neg n0]
        exact e1
      · unfold M_deeds
        simp only [thr0, Option.bind_some, M_in1, hy, if_true, b3 _ (c _ _ (by omega) (by omega)) (c _ _ (by omega) (by omega)), decide_eq_false n1, Bool.false_eq_true, if_false]
        exact e2
  obtain ⟨r, μ1, μ2, h1, h2, h3⟩ := both
  refine ⟨μ2, ?_, h3⟩
  unfold Lc_21
  simp only [h1, Option.bind_some, h2, if_true]
