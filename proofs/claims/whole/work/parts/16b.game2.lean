/-! ===== game, value: the class's lead, and its two calls ===== -/
theorem iI_ltI {a b : Int} (h1 : -2147483648 ≤ a) (h2 : a < 2147483648) (h3 : -2147483648 ≤ b) (h4 : b < 2147483648) : (iI a < iI b) = (a < b) := by
  rw [Int32.lt_iff_toInt_lt, iI_toInt h1 h2, iI_toInt h3 h4]
theorem mx_i {a b : Int} (h1 : -2147483648 ≤ a) (h2 : a < 2147483648) (h3 : -2147483648 ≤ b) (h4 : b < 2147483648) : mx (iI a) (iI b) = iI (max a b) := by
  unfold mx
  simp only [iI_ltI h1 h2 h3 h4]
  by_cases e : a < b
  · rw [if_pos e]; (congr 1 <;> omega)
  · rw [if_neg e]; (congr 1 <;> omega)
theorem c_canTake {A : LV} {m : MI} (w : WF A) (hb : BRS A 35 m) {M F : Nat} (hM : M < 64) (hF : F < 64) : Play_canTake 35 (nI M) (nI F) m = some (cany A M F) := by
  have st : ∀ f, f < 6 → Play_canTake_s1 (nI F) m 35 (nI M) (nI f) = if cn A M F f = true then some (.inr (.inr true)) else some (.inl (nI (f + 1))) := by
    intro f hf6
    obtain ⟨c1, c2⟩ := can_v w hM hF hf6
    unfold Play_canTake_s1
    simp only [li_6, if_pos (nI_lt hf6 (show 6 < 2 ^ 31 by omega)), li_1, tbv (show F < 2 ^ 31 by omega) (show f < 31 by omega), Option.bind_some, nI_add]
    by_cases g1 : F.testBit f = true
    · rw [if_pos g1, ldA_n (show f < 6 by omega) (by omega), hb f hf6]
      simp only [Option.bind_some]
      by_cases g2 : al (fun k => !(M.testBit k && A.br f k)) A.n = true
      · rw [decide_eq_true (show nI (bs (fun b => A.br f b) A.n) &&& nI M = 0 from c2.mpr g2)]
        have : cn A M F f = true := by unfold cn; rw [g1, g2]; rfl
        simp only [this, Option.bind_some, Option.bind_none, if_true, if_false, ite_true, ite_false, Bool.false_eq_true, Bool.true_eq_false, Bool.not_true, Bool.not_false, decide_true, decide_false, decide_eq_true_eq, Sum.elim_inl, Sum.elim_inr, ne_eq, not_true, not_false_iff, reduceIte, reduceCtorEq, Bool.cond_true, Bool.cond_false]
      · rw [decide_eq_false (show ¬ nI (bs (fun b => A.br f b) A.n) &&& nI M = 0 from fun z => g2 (c2.mp z))]
        have : cn A M F f = false := by unfold cn; rw [Bool.eq_false_iff.mpr g2, Bool.and_false]
        simp only [this, Option.bind_some, Option.bind_none, if_true, if_false, ite_true, ite_false, Bool.false_eq_true, Bool.true_eq_false, Bool.not_true, Bool.not_false, decide_true, decide_false, decide_eq_true_eq, Sum.elim_inl, Sum.elim_inr, ne_eq, not_true, not_false_iff, reduceIte, reduceCtorEq, Bool.cond_true, Bool.cond_false]
    · rw [if_neg g1]
      have : cn A M F f = false := by unfold cn; rw [Bool.eq_false_iff.mpr g1, Bool.false_and]
      rw [this]; rfl
  have key := lp_fnd (step := Play_canTake_s1 (nI F) m 35 (nI M)) (fun f => nI f) (fun f => cn A M F f) (.inl ()) (fun _ => .inr true) 6 (by omega) (fun k hk hq => by rw [st k hk, if_neg (by rw [hq]; decide)]) (fun k hk hq => by rw [st k hk, if_pos hq]) (by
    unfold Play_canTake_s1
    simp only [li_6, nI_ltI (show 6 < 2 ^ 31 by omega) (show 6 < 2 ^ 31 by omega), Nat.lt_irrefl, if_false])
  unfold Play_canTake
  rw [show (nI 0 : Int32) = 0 from rfl] at key
  rw [key]
  rcases fnd_cases (fun f => cn A M F f) 6 with ⟨k, hk, hp, _, e⟩ | ⟨hall, e⟩
  · rw [e]
    have : cany A M F = true := by
      cases q : cany A M F
      · have := cany_f q hk
        rw [show cn A M F k = true from hp] at this; cases this
      · rfl
    rw [this]; rfl
  · rw [e]
    have : cany A M F = false := by
      cases q : cany A M F
      · rfl
      · obtain ⟨f, hf, hq⟩ := cany_t q
        rw [show cn A M F f = false from hall f hf] at hq; cases hq
    rw [this]; rfl
theorem c_lead {A : LV} {m : MI} (w : WF A) (hb : BRS A 35 m) : ∀ (r fuel t M T F : Nat), r + t = 15 → r < fuel → M < 64 → T < 64 → F < 64 → Play_leadFrom fuel 35 (nI M) (nI T) (nI F) (nI t) m = some (iI (ld A r M T F))
  | _, 0, _, _, _, _, _, h, _, _, _ => absurd h (Nat.not_lt_zero _)
  | 0, fuel + 1, t, M, T, F, ht, hf, hM, hT, hF => by
    unfold Play_leadFrom
    rw [if_pos (show (14 : Int32) < nI t from by rw [show (14 : Int32) = nI 14 from rfl]; exact nI_lt (by omega) (by omega))]
    rfl
  | r + 1, fuel + 1, t, M, T, F, ht, hf, hM, hT, hF => by
    unfold Play_leadFrom
    rw [if_neg (show ¬ (14 : Int32) < nI t from by rw [show (14 : Int32) = nI 14 from rfl]; exact nI_nlt (by omega) (by omega))]
    rw [c_canTake w hb hM hF, c_canTake w hb hT hF]
    simp only [Option.bind_some, Option.bind_none, if_true, if_false, ite_true, ite_false, Bool.false_eq_true, Bool.true_eq_false, Bool.not_true, Bool.not_false, decide_true, decide_false, decide_eq_true_eq, Sum.elim_inl, Sum.elim_inr, ne_eq, not_true, not_false_iff, reduceIte, reduceCtorEq, Bool.cond_true, Bool.cond_false]
    show _ = some (iI (if cany A M F = true then lmx (cn A M F) (fun f => 1 - ld A r T (mv M f) (rmv F f)) 6 else if cany A T F = true then -(ld A r T M F) else 0))
    by_cases e : cany A M F = true
    · rw [if_pos e, if_pos e]
      have f6 := fc_le F
      have vb : ∀ f, f < 6 → cn A M F f = true → -10 ≤ 1 - ld A r T (mv M f) (rmv F f) ∧ 1 - ld A r T (mv M f) (rmv F f) ≤ 10 := by
        intro f hf hq
        have := ld_b A r T (mv M f) (rmv F f)
        have := fc_rmv hf (cn_F hq)
        omega
      have lb : ∀ k, k ≤ 6 → -6 ≤ lmx (cn A M F) (fun f => 1 - ld A r T (mv M f) (rmv F f)) k ∧ lmx (cn A M F) (fun f => 1 - ld A r T (mv M f) (rmv F f)) k ≤ 10 := by
        intro k hk
        have := lmx_b (ok := cn A M F) (v := fun f => 1 - ld A r T (mv M f) (rmv F f)) (c := 10) (by omega) (n := k) (fun j hj hq => (vb j (by omega) hq).2)
        exact ⟨this.2, this.1⟩
      have key := lp_seq (step := Play_leadFrom_s1 (nI F) m 35 (nI M) (Play_leadFrom fuel) (nI T) (nI t)) (fun k => (iI (lmx (cn A M F) (fun f => 1 - ld A r T (mv M f) (rmv F f)) k), nI k)) 6 (r := iI (lmx (cn A M F) (fun f => 1 - ld A r T (mv M f) (rmv F f)) 6)) (by omega) (fun f hf6 => by
        obtain ⟨c1, c2⟩ := can_v w hM hF hf6
        have rc : Play_leadFrom fuel 35 (nI T) (nI (M ||| 2 ^ f)) (nI (F &&& (F ^^^ 2 ^ f))) (nI (t + 1)) m = some (iI (ld A r T (mv M f) (rmv F f))) := c_lead w hb r fuel (t + 1) T (mv M f) (rmv F f) (by omega) (by omega) hT (mv_lt hM hf6) (rmv_lt hF)
        obtain ⟨l1, l2⟩ := lb f (by omega)
        unfold Play_leadFrom_s1
        simp only [li_6, if_pos (nI_lt hf6 (show 6 < 2 ^ 31 by omega)), li_1, sh1 (show f < 29 by omega), Option.bind_some, nI_add, fa_or, andn_1]
        by_cases g1 : F.testBit f = true
        · rw [if_pos (show nI F &&& nI (2 ^ f) ≠ 0 from c1.mpr g1), ldA_n (show f < 6 by omega) (by omega), hb f hf6]
          simp only [Option.bind_some]
          by_cases g2 : al (fun k => !(M.testBit k && A.br f k)) A.n = true
          · have q : cn A M F f = true := by unfold cn; rw [g1, g2]; rfl
            obtain ⟨v1, v2⟩ := vb f hf6 q
            rw [decide_eq_true (show nI (bs (fun b => A.br f b) A.n) &&& nI M = 0 from c2.mpr g2), rc]
            simp only [Option.bind_some, Option.bind_none, if_true, if_false, ite_true, ite_false, Bool.false_eq_true, Bool.true_eq_false, Bool.not_true, Bool.not_false, decide_true, decide_false, decide_eq_true_eq, Sum.elim_inl, Sum.elim_inr, ne_eq, not_true, not_false_iff, reduceIte, reduceCtorEq, Bool.cond_true, Bool.cond_false]
            rw [show (nI 1 : Int32) = iI 1 from rfl, iI_sub, mx_i (by omega) (by omega) (by omega) (by omega)]
            show _ = some (Sum.inl (iI (if cn A M F f = true then max (lmx (cn A M F) (fun f => 1 - ld A r T (mv M f) (rmv F f)) f) (1 - ld A r T (mv M f) (rmv F f)) else _), _))
            rw [if_pos q]
          · have q : cn A M F f = false := by unfold cn; rw [Bool.eq_false_iff.mpr g2, Bool.and_false]
            rw [decide_eq_false (show ¬ nI (bs (fun b => A.br f b) A.n) &&& nI M = 0 from fun z => g2 (c2.mp z))]
            simp only [Option.bind_some, Option.bind_none, if_true, if_false, ite_true, ite_false, Bool.false_eq_true, Bool.true_eq_false, Bool.not_true, Bool.not_false, decide_true, decide_false, decide_eq_true_eq, Sum.elim_inl, Sum.elim_inr, ne_eq, not_true, not_false_iff, reduceIte, reduceCtorEq, Bool.cond_true, Bool.cond_false]
            show _ = some (Sum.inl (iI (if cn A M F f = true then _ else lmx (cn A M F) (fun f => 1 - ld A r T (mv M f) (rmv F f)) f), _))
            rw [if_neg (by rw [q]; decide)]
        · have q : cn A M F f = false := by unfold cn; rw [Bool.eq_false_iff.mpr g1, Bool.false_and]
          rw [if_neg (show ¬ nI F &&& nI (2 ^ f) ≠ 0 from fun z => g1 (c1.mp z))]
          simp only [Option.bind_some, Option.bind_none, if_true, if_false, ite_true, ite_false, Bool.false_eq_true, Bool.true_eq_false, Bool.not_true, Bool.not_false, decide_true, decide_false, decide_eq_true_eq, Sum.elim_inl, Sum.elim_inr, ne_eq, not_true, not_false_iff, reduceIte, reduceCtorEq, Bool.cond_true, Bool.cond_false]
          show _ = some (Sum.inl (iI (if cn A M F f = true then _ else lmx (cn A M F) (fun f => 1 - ld A r T (mv M f) (rmv F f)) f), _))
          rw [if_neg (by rw [q]; decide)]) (by
        simp only [Play_leadFrom_s1, li_6, nI_ltI (show 6 < 2 ^ 31 by omega) (show 6 < 2 ^ 31 by omega), Nat.lt_irrefl, if_false])
      have key' : lp (Play_leadFrom_s1 (nI F) m 35 (nI M) (Play_leadFrom fuel) (nI T) (nI t)) FUEL (-6, 0) = some (iI (lmx (cn A M F) (fun f => 1 - ld A r T (mv M f) (rmv F f)) 6)) := key
      rw [key']; rfl
    · rw [if_neg e, if_neg e]
      by_cases e2 : cany A T F = true
      · rw [if_pos e2, e2]
        have rc := c_lead w hb r fuel (t + 1) T M F (by omega) (by omega) hT hM hF
        rw [li_1, nI_add, rc]
        simp only [Option.bind_some, Option.bind_none, if_true, if_false, ite_true, ite_false, Bool.false_eq_true, Bool.true_eq_false, Bool.not_true, Bool.not_false, decide_true, decide_false, decide_eq_true_eq, Sum.elim_inl, Sum.elim_inr, ne_eq, not_true, not_false_iff, reduceIte, reduceCtorEq, Bool.cond_true, Bool.cond_false, iI_neg]
      · rw [if_neg e2, Bool.eq_false_iff.mpr e2]; rfl
/-- the sets that the game begins with -/
def os (A : LV) (o : Nat) : Nat := bs (fun f => decide (A.ow f = o)) A.n
theorem os_lt {A : LV} (w : WF A) (o : Nat) : os A o < 64 := Nat.lt_of_lt_of_le (bs_lt (fun f => decide (A.ow f = o)) A.n) (two_le w.n6)
/-- the first field that wins -/
def gwin (A : LV) : Option Nat := wn A 15 (os A 1) (os A 2) (os A 0)
def gld (A : LV) : Int := ld A 15 (os A 1) (os A 2) (os A 0)
theorem c_winningField {A : LV} {μ : MI} (h : CR 1 A μ) (w : WF A) : ∃ m, Play_winningField 1 μ = some ((gwin A).elim (-4) (fun f => nI f), m) ∧ ag (fun a _ => a = 35) μ m := by
  obtain ⟨m, e, hb, g⟩ := c_writeBars (c := 35) h w (by omega)
  have hm : CR 1 A m := h.tg g (fun a j z1 z2 z3 => by omega)
  refine ⟨m, ?_, g⟩
  have f1 : Land_fieldBits 1 (nI (cl 1)) m = some (nI (os A 1)) := c_fieldBits hm w (show 1 ≤ 3 by omega)
  have f2 : Land_fieldBits 1 (nI (cl 2)) m = some (nI (os A 2)) := c_fieldBits hm w (show 2 ≤ 3 by omega)
  have f0 : Land_fieldBits 1 (nI (cl 0)) m = some (nI (os A 0)) := c_fieldBits hm w (show 0 ≤ 3 by omega)
  rw [show nI (cl 1) = 0 from rfl] at f1
  rw [show nI (cl 2) = 1 from rfl] at f2
  rw [show nI (cl 0) = 9 from rfl] at f0
  unfold Play_winningField
  rw [e]
  simp only [Option.bind_some]
  rw [f1, f2, f0]
  simp only [Option.bind_some]
  rw [show (0 : Int32) = nI 0 from rfl, c_winning w hb 15 20 0 _ _ _ rfl (by omega) (os_lt w 1) (os_lt w 2) (os_lt w 0)]
  rfl
theorem c_playLead {A : LV} {μ : MI} (h : CR 1 A μ) (w : WF A) : ∃ m, Play_lead 1 μ = some (iI (gld A), m) ∧ ag (fun a _ => a = 35) μ m := by
  obtain ⟨m, e, hb, g⟩ := c_writeBars (c := 35) h w (by omega)
  have hm : CR 1 A m := h.tg g (fun a j z1 z2 z3 => by omega)
  refine ⟨m, ?_, g⟩
  have f1 : Land_fieldBits 1 (nI (cl 1)) m = some (nI (os A 1)) := c_fieldBits hm w (show 1 ≤ 3 by omega)
  have f2 : Land_fieldBits 1 (nI (cl 2)) m = some (nI (os A 2)) := c_fieldBits hm w (show 2 ≤ 3 by omega)
  have f0 : Land_fieldBits 1 (nI (cl 0)) m = some (nI (os A 0)) := c_fieldBits hm w (show 0 ≤ 3 by omega)
  rw [show nI (cl 1) = 0 from rfl] at f1
  rw [show nI (cl 2) = 1 from rfl] at f2
  rw [show nI (cl 0) = 9 from rfl] at f0
  unfold Play_lead
  rw [e]
  simp only [Option.bind_some]
  rw [f1, f2, f0]
  simp only [Option.bind_some]
  rw [show (0 : Int32) = nI 0 from rfl, c_lead w hb 15 20 0 _ _ _ rfl (by omega) (os_lt w 1) (os_lt w 2) (os_lt w 0)]
  rfl
/-- what 'game' answers -/
def gameV (A : LV) (x : Int32) : Int32 := if x < 0 ∨ 1 < x then -1 else if A.p < 2 then -3 else if x = 0 then bI (gwin A).isSome else (gwin A).elim (-4) (fun f => nI f)
theorem gwin_lt {A : LV} {f : Nat} (h : gwin A = some f) : f < 6 := by
  unfold gwin at h
  have h : fnd _ 6 = some f := h
  rcases fnd_cases (fun g => cn A (os A 1) (os A 0) g && (wn A 14 (os A 2) (mv (os A 1) g) (rmv (os A 0) g)).isNone) 6 with ⟨k, hk, _, _, e⟩ | ⟨_, e⟩
  · rw [e] at h; cases h; exact hk
  · rw [e] at h; cases h
theorem N_game_v {A : LV} {μ : MI} (h : CR 1 A μ) (w : WF A) (x : Int32) : ∃ m, N_game x μ = some (gameV A x, m) ∧ ag (fun a _ => a = 35) μ m := by
  have hp := w.p3
  unfold N_game gameV
  by_cases e1 : x < 0
  · rw [if_pos e1, if_pos (Or.inl e1)]
    exact ⟨μ, rfl, ag_rf _ _⟩
  rw [if_neg e1]
  by_cases e2 : (1 : Int32) < x
  · rw [if_pos (Or.inr e2), decide_eq_true e2]
    exact ⟨μ, rfl, ag_rf _ _⟩
  rw [if_neg (show ¬ (x < 0 ∨ 1 < x) from fun z => z.elim e1 e2), decide_eq_false e2, h.hp]
  simp only [Option.bind_some, Option.bind_none, if_true, if_false, ite_true, ite_false, Bool.false_eq_true, Bool.true_eq_false, Bool.not_true, Bool.not_false, decide_true, decide_false, decide_eq_true_eq, Sum.elim_inl, Sum.elim_inr, ne_eq, not_true, not_false_iff, reduceIte, reduceCtorEq, Bool.cond_true, Bool.cond_false]
  rw [show (2 : Int32) = nI 2 from rfl]
  by_cases e3 : A.p < 2
  · rw [if_pos (nI_lt e3 (by omega)), if_pos e3]
    exact ⟨μ, rfl, ag_rf _ _⟩
  rw [if_neg (nI_nlt (by omega) (by omega)), if_neg e3]
  obtain ⟨m, q1, q2⟩ := c_winningField h w
  rw [q1]
  refine ⟨m, ?_, q2⟩
  simp only [Option.bind_some, Option.bind_none, if_true, if_false, ite_true, ite_false, Bool.false_eq_true, Bool.true_eq_false, Bool.not_true, Bool.not_false, decide_true, decide_false, decide_eq_true_eq, Sum.elim_inl, Sum.elim_inr, ne_eq, not_true, not_false_iff, reduceIte, reduceCtorEq, Bool.cond_true, Bool.cond_false]
  by_cases e4 : x = 0
  · rw [if_pos e4, if_pos e4]
    rcases q : gwin A with _ | f
    · rfl
    · have := gwin_lt q
      have d : ¬ nI f = -4 := by rw [li_4, ne_neg (by omega) (by omega) (by omega)]; exact id
      show ((if nI f = -4 then some 0 else some 1 : Option Int32).bind fun x17 => some (x17, m)) = _
      rw [if_neg d]; rfl
  · rw [if_neg e4, if_neg e4]
theorem N_value_v {A : LV} {μ : MI} (h : CR 1 A μ) (w : WF A) : ∃ m, N_value μ = some (if A.p < 2 then -1000000003 else iI (gld A), m) ∧ ag (fun a _ => a = 35) μ m := by
  have hp := w.p3
  unfold N_value
  rw [h.hp, show (2 : Int32) = nI 2 from rfl]
  by_cases e3 : A.p < 2
  · rw [if_pos (nI_lt e3 (by omega)), if_pos e3]
    exact ⟨μ, rfl, ag_rf _ _⟩
  rw [if_neg (nI_nlt (by omega) (by omega)), if_neg e3]
  obtain ⟨m, q1, q2⟩ := c_playLead h w
  rw [q1]
  exact ⟨m, rfl, q2⟩
