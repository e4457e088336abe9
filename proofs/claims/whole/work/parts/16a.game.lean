/-! ===== game, value: what is asked, and the class's side ===== -/
def cn (A : LV) (M F f : Nat) : Bool := F.testBit f && al (fun k => !(M.testBit k && A.br f k)) A.n
def mv (M f : Nat) : Nat := M ||| 2 ^ f
def rmv (F f : Nat) : Nat := F &&& (F ^^^ 2 ^ f)
def wn (A : LV) : Nat → Nat → Nat → Nat → Option Nat
  | 0, _, _, _ => none
  | r + 1, M, T, F => fnd (fun f => cn A M F f && (wn A r T (mv M f) (rmv F f)).isNone) 6
def cany (A : LV) (M F : Nat) : Bool := !(al (fun f => !(cn A M F f)) 6)
def lmx (ok : Nat → Bool) (v : Nat → Int) : Nat → Int
  | 0 => -6
  | k + 1 => if ok k = true then max (lmx ok v k) (v k) else lmx ok v k
def ld (A : LV) : Nat → Nat → Nat → Nat → Int
  | 0, _, _, _ => 0
  | r + 1, M, T, F => if cany A M F = true then lmx (cn A M F) (fun f => 1 - ld A r T (mv M f) (rmv F f)) 6 else if cany A T F = true then -(ld A r T M F) else 0
def fc (F : Nat) : Nat := sm (fun f => if F.testBit f = true then 1 else 0) 6
theorem mv_tb (M f g : Nat) : (mv M f).testBit g = (M.testBit g || decide (f = g)) := by
  unfold mv
  rw [Nat.testBit_or, Nat.testBit_two_pow]
theorem rmv_tb (F f g : Nat) : (rmv F f).testBit g = (F.testBit g && !decide (f = g)) := by
  unfold rmv
  rw [andn_tb, Nat.testBit_two_pow]
theorem fc_rmv {F f : Nat} (hf : f < 6) (h : F.testBit f = true) : fc F = fc (rmv F f) + 1 := by
  unfold fc
  have e1 : ∀ g, g < 6 → (if F.testBit g = true then 1 else 0) = (if (rmv F f).testBit g = true then 1 else 0) + (if g = f then 1 else 0) := by
    intro g _
    rw [rmv_tb]
    by_cases e : f = g
    · subst e; simp [h]
    · rw [if_neg (show ¬ g = f from fun z => e z.symm)]; simp [e]
  rw [sm_cg e1, sm_add]
  have e2 : ∀ n, f < n → sm (fun g => if g = f then 1 else 0) n = 1 := by
    intro n
    induction n with
    | zero => intro h; omega
    | succ n ih =>
      intro h
      show sm (fun g => if g = f then 1 else 0) n + (if n = f then 1 else 0) = 1
      by_cases e : n = f
      · rw [if_pos e]
        have : sm (fun g => if g = f then 1 else 0) n = sm (fun _ => 0) n := sm_cg fun g hg => if_neg (by omega)
        rw [this, sm_z]
      · rw [if_neg e, ih (by omega)]
  rw [e2 6 hf]
theorem cn_F {A : LV} {M F f : Nat} (h : cn A M F f = true) : F.testBit f = true := by
  unfold cn at h
  rw [Bool.and_eq_true] at h
  exact h.1
theorem fc0 {F f : Nat} (hf : f < 6) (h : fc F = 0) : F.testBit f = false := by
  cases q : F.testBit f
  · rfl
  · have := fc_rmv hf q; omega
theorem fnd_cg {P Q : Nat → Bool} {n : Nat} (h : ∀ k, k < n → P k = Q k) : fnd P n = fnd Q n := by
  rcases fnd_cases P n with ⟨k, hk, hp, hm, e⟩ | ⟨hall, e⟩
  · rw [e, fnd_some (by rw [← h k hk]; exact hp) (fun j hj => by rw [← h j (by omega)]; exact hm j hj) hk]
  · rw [e, fnd_none (fun k hk => by rw [← h k hk]; exact hall k hk)]
theorem wn_fu (A : LV) : ∀ (r M T F : Nat), fc F ≤ r → wn A (r + 1) M T F = wn A r M T F
  | 0, M, T, F, h => by
    show fnd _ 6 = none
    refine fnd_none fun f hf => ?_
    have : cn A M F f = false := by
      cases q : cn A M F f
      · rfl
      · have := cn_F q
        rw [fc0 hf (by omega)] at this; cases this
    rw [this, Bool.false_and]
  | r + 1, M, T, F, h => by
    show fnd (fun f => cn A M F f && (wn A (r + 1) T (mv M f) (rmv F f)).isNone) 6 = fnd (fun f => cn A M F f && (wn A r T (mv M f) (rmv F f)).isNone) 6
    refine fnd_cg fun f hf => ?_
    cases q : cn A M F f
    · rfl
    · have := fc_rmv hf (cn_F q)
      rw [wn_fu A r T (mv M f) (rmv F f) (by omega)]
theorem wn_eq (A : LV) {r M T F : Nat} (h : fc F ≤ r) : ∀ k, wn A (r + k) M T F = wn A r M T F
  | 0 => rfl
  | k + 1 => by
    rw [show r + (k + 1) = r + k + 1 from rfl, wn_fu A (r + k) M T F (by omega)]
    exact wn_eq A h k
theorem lmx_cg {ok : Nat → Bool} {v u : Nat → Int} : ∀ {n : Nat}, (∀ k, k < n → ok k = true → v k = u k) → lmx ok v n = lmx ok u n
  | 0, _ => rfl
  | n + 1, h => by
    show (if ok n = true then max (lmx ok v n) (v n) else lmx ok v n) = (if ok n = true then max (lmx ok u n) (u n) else lmx ok u n)
    rw [lmx_cg (fun k hk => h k (by omega))]
    by_cases e : ok n = true
    · rw [if_pos e, if_pos e, h n (by omega) e]
    · rw [if_neg e, if_neg e]
theorem ld_fu (A : LV) : ∀ (r M T F : Nat), 2 * fc F + (if cany A M F = true then 1 else 2) ≤ r → ld A (r + 1) M T F = ld A r M T F
  | 0, M, T, F, h => by
    exfalso
    by_cases e : cany A M F = true
    · rw [if_pos e] at h; omega
    · rw [if_neg e] at h; omega
  | r + 1, M, T, F, h => by
    show (if cany A M F = true then lmx (cn A M F) (fun f => 1 - ld A (r + 1) T (mv M f) (rmv F f)) 6 else if cany A T F = true then -(ld A (r + 1) T M F) else 0) = (if cany A M F = true then lmx (cn A M F) (fun f => 1 - ld A r T (mv M f) (rmv F f)) 6 else if cany A T F = true then -(ld A r T M F) else 0)
    by_cases e : cany A M F = true
    · rw [if_pos e] at h
      rw [if_pos e, if_pos e]
      refine lmx_cg fun f hf hq => ?_
      have := fc_rmv hf (cn_F hq)
      rw [ld_fu A r T (mv M f) (rmv F f) (by split <;> omega)]
    · rw [if_neg e] at h
      rw [if_neg e, if_neg e]
      by_cases e2 : cany A T F = true
      · rw [if_pos e2, if_pos e2, ld_fu A r T M F (by rw [if_pos e2]; omega)]
      · rw [if_neg e2, if_neg e2]
theorem ld_eq (A : LV) {r M T F : Nat} (h : 2 * fc F + 2 ≤ r) : ∀ k, ld A (r + k) M T F = ld A r M T F
  | 0 => rfl
  | k + 1 => by
    rw [show r + (k + 1) = r + k + 1 from rfl, ld_fu A (r + k) M T F (by split <;> omega)]
    exact ld_eq A h k
theorem lmx_b {ok : Nat → Bool} {v : Nat → Int} {c : Int} (hc : -6 ≤ c) : ∀ {n : Nat}, (∀ k, k < n → ok k = true → v k ≤ c) → lmx ok v n ≤ c ∧ -6 ≤ lmx ok v n
  | 0, _ => ⟨hc, Int.le_refl _⟩
  | n + 1, h => by
    have ih := lmx_b hc (n := n) (fun k hk => h k (by omega))
    unfold lmx
    split
    · rename_i q
      have := h n (by omega) q
      omega
    · exact ih
theorem lmx_ge {ok : Nat → Bool} {v : Nat → Int} : ∀ {n k : Nat}, k < n → ok k = true → v k ≤ lmx ok v n
  | 0, k, h, _ => absurd h (Nat.not_lt_zero _)
  | n + 1, k, h, q => by
    unfold lmx
    by_cases e : k = n
    · subst e; rw [if_pos q]; omega
    · have := lmx_ge (n := n) (v := v) (k := k) (by omega) q
      split
      · omega
      · exact this
theorem cany_t {A : LV} {M F : Nat} (h : cany A M F = true) : ∃ f, f < 6 ∧ cn A M F f = true := by
  unfold cany at h
  obtain ⟨k, hk, e⟩ := al_ex (P := fun f => !(cn A M F f)) (n := 6) (by revert h; cases al (fun f => !(cn A M F f)) 6 <;> simp)
  exact ⟨k, hk, by revert e; cases cn A M F k <;> simp⟩
theorem cany_f {A : LV} {M F : Nat} (h : cany A M F = false) {f : Nat} (hf : f < 6) : cn A M F f = false := by
  unfold cany at h
  have := al_iff.mp (show al (fun f => !(cn A M F f)) 6 = true by revert h; cases al (fun f => !(cn A M F f)) 6 <;> simp) f hf
  revert this; cases cn A M F f <;> simp
theorem fc_le (F : Nat) : fc F ≤ 6 := by
  unfold fc
  have := sm_le (f := fun f => if F.testBit f = true then 1 else 0) (c := 1) (n := 6) (fun k _ => by show (if F.testBit k = true then 1 else 0) ≤ 1; split <;> omega)
  omega
/-- a lead is no more than what is free -/
theorem ld_b (A : LV) : ∀ (r M T F : Nat), -(fc F : Int) ≤ ld A r M T F ∧ ld A r M T F ≤ fc F
  | 0, M, T, F => by
    show -(fc F : Int) ≤ 0 ∧ (0 : Int) ≤ fc F
    omega
  | r + 1, M, T, F => by
    have f6 := fc_le F
    show -(fc F : Int) ≤ (if cany A M F = true then lmx (cn A M F) (fun f => 1 - ld A r T (mv M f) (rmv F f)) 6 else if cany A T F = true then -(ld A r T M F) else 0) ∧ (if cany A M F = true then lmx (cn A M F) (fun f => 1 - ld A r T (mv M f) (rmv F f)) 6 else if cany A T F = true then -(ld A r T M F) else 0) ≤ fc F
    by_cases e : cany A M F = true
    · rw [if_pos e]
      obtain ⟨f, hf, hq⟩ := cany_t e
      have h1 := lmx_b (ok := cn A M F) (v := fun f => 1 - ld A r T (mv M f) (rmv F f)) (c := fc F) (by omega) (n := 6) (fun k hk hq => by
        have := ld_b A r T (mv M k) (rmv F k)
        have := fc_rmv hk (cn_F hq)
        show 1 - _ ≤ _
        omega)
      have h2 := lmx_ge (v := fun f => 1 - ld A r T (mv M f) (rmv F f)) hf hq
      have h3 := ld_b A r T (mv M f) (rmv F f)
      have h4 := fc_rmv hf (cn_F hq)
      have h2 : 1 - ld A r T (mv M f) (rmv F f) ≤ lmx (cn A M F) (fun f => 1 - ld A r T (mv M f) (rmv F f)) 6 := h2
      omega
    · rw [if_neg e]
      by_cases e2 : cany A T F = true
      · rw [if_pos e2]
        have := ld_b A r T M F
        omega
      · rw [if_neg e2]; omega
/-! the class's -/
def BRS (A : LV) (c : Nat) (μ : MI) : Prop := ∀ f, f < 6 → μ.1 c f = nI (bs (fun b => A.br f b) A.n)
theorem c_writeBars {t c A μ} (h : CR t A μ) (w : WF A) (hc : c < t ∨ t + 6 < c) : ∃ m, Land_writeBars t c μ = some m ∧ BRS A c m ∧ ag (fun a _ => a = c) μ m := by
  unfold Land_writeBars
  obtain ⟨m, e, h1, h2⟩ := lp_m (step := Land_writeBars_s1 t c) (fun k m => ag (fun a _ => a = c) μ m ∧ ∀ f, f < k → m.1 c f = nI (bs (fun b => A.br f b) A.n)) 6 (by omega) (μ := μ) ⟨ag_rf _ _, fun f hf => absurd hf (Nat.not_lt_zero _)⟩ (fun k m hk ⟨q1, q2⟩ => by
    have hm : CR t A m := h.tg q1 (fun a j z1 z2 z3 => by omega)
    refine ⟨si m c k (nI (bs (fun b => A.br k b) A.n)), ?_, ag_st q1 rfl, fun f hf => ?_⟩
    · simp only [Land_writeBars_s1, li_6, if_pos (nI_lt hk (show 6 < 2 ^ 31 by omega)), c_barBits hm w hk, Option.bind_some, stA_n hk (show 6 ≤ 5000 by omega), li_1, nI_add]
    · rw [si_at]
      by_cases e : f = k
      · rw [if_pos e, e]
      · rw [if_neg e, q2 f (by omega)]) (fun m _ => by
    simp only [Land_writeBars_s1, li_6, nI_ltI (show 6 < 2 ^ 31 by omega) (show 6 < 2 ^ 31 by omega), Nat.lt_irrefl, if_false])
  rw [e]
  exact ⟨m, rfl, h2, h1⟩
/-- one bit, by 'and' with a power of two -/
theorem fa_bit {n j : Nat} (hj : j < 31) : nI n &&& nI (2 ^ j) = 0 ↔ n.testBit j = false := by
  have h2 : (2 : Nat) ^ j < 2 ^ 31 := Nat.pow_lt_pow_right (by decide) hj
  have hle : n &&& 2 ^ j ≤ 2 ^ j := Nat.and_le_right
  have e : n &&& 2 ^ j = 0 ↔ n.testBit j = false := by
    constructor
    · intro h
      have h1 : (n &&& 2 ^ j).testBit j = false := by rw [h]; simp
      rw [Nat.testBit_and] at h1
      first | simpa using h1 | simpa [Nat.testBit_two_pow_self] using h1 | simpa [Nat.testBit_two_pow] using h1
    · intro h
      apply Nat.eq_of_testBit_eq
      intro i
      rw [Nat.testBit_and]
      by_cases hi : j = i
      · subst hi; simp [h]
      · first | (simp [Nat.testBit_two_pow, hi]; done) | (simp [Nat.testBit_two_pow_of_ne hi]; done)
  rw [fa_and]
  constructor
  · intro h
    apply e.mp
    rcases Nat.eq_zero_or_pos (n &&& 2 ^ j) with z | z
    · exact z
    · exact absurd h (nI_ne0 z (Nat.lt_of_le_of_lt hle h2))
  · intro h
    rw [e.mpr h]; exact nI_0
theorem can_v {A : LV} (w : WF A) {M F f : Nat} (hM : M < 64) (hF : F < 64) (hf : f < 6) : ((nI F &&& nI (2 ^ f) ≠ nI 0) ↔ F.testBit f = true) ∧ ((nI (bs (fun b => A.br f b) A.n) &&& nI M = nI 0) ↔ al (fun k => !(M.testBit k && A.br f k)) A.n = true) := by
  have hn := w.n6
  have t6 := two_le hn
  have hb := Nat.lt_of_lt_of_le (bs_lt (fun b => A.br f b) A.n) t6
  constructor
  · have e := fa_bit (n := F) (j := f) (by omega)
    rw [show (nI 0 : Int32) = 0 from rfl]
    constructor
    · intro h
      cases q : F.testBit f
      · exact absurd (e.mpr q) h
      · rfl
    · intro h z
      rw [e.mp z] at h; cases h
  · rw [and0 (by omega) (by omega), al_iff]
    constructor
    · intro h k hk
      have := h k (by omega)
      rw [bs_tb, decide_eq_true hk] at this
      revert this
      cases A.br f k <;> cases M.testBit k <;> simp
    · intro h i hi
      rw [bs_tb]
      rintro ⟨t1, t2⟩
      rw [Bool.and_eq_true, decide_eq_true_eq] at t1
      have := h i t1.1
      rw [t1.2, t2] at this
      cases this
theorem mv_lt {M f : Nat} (hM : M < 64) (hf : f < 6) : mv M f < 64 := by
  unfold mv
  have : 2 ^ f < 2 ^ 6 := Nat.pow_lt_pow_right (by decide) hf
  exact Nat.or_lt_two_pow (n := 6) hM this
theorem rmv_lt {F f : Nat} (hF : F < 64) : rmv F f < 64 := by
  unfold rmv
  have : F &&& (F ^^^ 2 ^ f) ≤ F := Nat.and_le_left
  omega
theorem c_winning {A : LV} {m : MI} (w : WF A) (hb : BRS A 35 m) : ∀ (r fuel t M T F : Nat), r + t = 15 → r < fuel → M < 64 → T < 64 → F < 64 → Play_winningFrom fuel 35 (nI M) (nI T) (nI F) (nI t) m = some ((wn A r M T F).elim (-4) (fun f => nI f))
  | _, 0, _, _, _, _, _, h, _, _, _ => absurd h (Nat.not_lt_zero _)
  | 0, fuel + 1, t, M, T, F, ht, hf, hM, hT, hF => by
    unfold Play_winningFrom
    rw [if_pos (show (14 : Int32) < nI t from by rw [show (14 : Int32) = nI 14 from rfl]; exact nI_lt (by omega) (by omega))]
    rfl
  | r + 1, fuel + 1, t, M, T, F, ht, hf, hM, hT, hF => by
    unfold Play_winningFrom
    rw [if_neg (show ¬ (14 : Int32) < nI t from by rw [show (14 : Int32) = nI 14 from rfl]; exact nI_nlt (by omega) (by omega))]
    have st : ∀ f, f < 6 → Play_winningFrom_s1 (nI F) m 35 (nI M) (Play_winningFrom fuel) (nI T) (nI t) (nI f) = if (cn A M F f && (wn A r T (mv M f) (rmv F f)).isNone) = true then some (.inr (.inr (nI f))) else some (.inl (nI (f + 1))) := by
      intro f hf6
      obtain ⟨c1, c2⟩ := can_v w hM hF hf6
      have rc := c_winning w hb r fuel (t + 1) T (mv M f) (rmv F f) (by omega) (by omega) hT (mv_lt hM hf6) (rmv_lt hF)
      have d4 : ∀ o : Option Nat, (∀ x, o = some x → x < 100) → decide (o.elim (-4) (fun f => nI f) = (-4 : Int32)) = o.isNone := by
        intro o ho
        rcases o with _ | x
        · rfl
        · have := ho x rfl
          apply decide_eq_false
          show ¬ nI x = -4
          rw [li_4, ne_neg (by omega) (by omega) (by omega)]; exact id
      have wl : ∀ x, wn A r T (mv M f) (rmv F f) = some x → x < 100 := by
        intro x hx
        rcases r with _ | r
        · cases hx
        · have hx : fnd _ 6 = some x := hx
          rcases fnd_cases (fun g => cn A T (rmv F f) g && (wn A r (mv M f) (mv T g) (rmv (rmv F f) g)).isNone) 6 with ⟨k, hk, _, _, e⟩ | ⟨_, e⟩
          · rw [e] at hx; cases hx; omega
          · rw [e] at hx; cases hx
      unfold Play_winningFrom_s1
      simp only [li_6, if_pos (nI_lt hf6 (show 6 < 2 ^ 31 by omega)), li_1, sh1 (show f < 29 by omega), Option.bind_some, nI_add, fa_or, andn_1]
      by_cases g1 : F.testBit f = true
      · rw [if_pos (show nI F &&& nI (2 ^ f) ≠ 0 from c1.mpr g1), ldA_n (show f < 6 by omega) (by omega), hb f hf6]
        simp only [Option.bind_some]
        by_cases g2 : al (fun k => !(M.testBit k && A.br f k)) A.n = true
        · rw [if_pos (show nI (bs (fun b => A.br f b) A.n) &&& nI M = 0 from c2.mpr g2)]
          have rc' : Play_winningFrom fuel 35 (nI T) (nI (M ||| 2 ^ f)) (nI (F &&& (F ^^^ 2 ^ f))) (nI (t + 1)) m = some ((wn A r T (mv M f) (rmv F f)).elim (-4) (fun f => nI f)) := rc
          rw [rc']
          simp only [Option.bind_some]
          rw [d4 _ wl]
          have : cn A M F f = true := by unfold cn; rw [g1, g2]; rfl
          rw [this, Bool.true_and]
        · rw [if_neg (show ¬ nI (bs (fun b => A.br f b) A.n) &&& nI M = 0 from fun z => g2 (c2.mp z))]
          have : cn A M F f = false := by unfold cn; rw [Bool.eq_false_iff.mpr g2, Bool.and_false]
          rw [this]; rfl
      · rw [if_neg (show ¬ nI F &&& nI (2 ^ f) ≠ 0 from fun z => g1 (c1.mp z))]
        have : cn A M F f = false := by unfold cn; rw [Bool.eq_false_iff.mpr g1, Bool.false_and]
        rw [this]; rfl
    have key := lp_fnd (step := Play_winningFrom_s1 (nI F) m 35 (nI M) (Play_winningFrom fuel) (nI T) (nI t)) (fun f => nI f) (fun f => cn A M F f && (wn A r T (mv M f) (rmv F f)).isNone) (.inl ()) (fun f => .inr (nI f)) 6 (by omega) (fun k hk hq => by rw [st k hk, if_neg (by rw [hq]; decide)]) (fun k hk hq => by rw [st k hk, if_pos hq]) (by
      unfold Play_winningFrom_s1
      simp only [li_6, nI_ltI (show 6 < 2 ^ 31 by omega) (show 6 < 2 ^ 31 by omega), Nat.lt_irrefl, if_false])
    rw [show (nI 0 : Int32) = 0 from rfl] at key
    rw [key]
    show _ = some ((fnd (fun f => cn A M F f && (wn A r T (mv M f) (rmv F f)).isNone) 6).elim (-4) (fun f => nI f))
    rcases fnd (fun f => cn A M F f && (wn A r T (mv M f) (rmv F f)).isNone) 6 with _ | f <;> rfl
