/-! ===== game, value: a state is solved from the states after it ===== -/
def gS (A : LV) (s p : Nat) : Option Nat := wn A 15 (gM A s p) (gM A s (1 - p)) (gF A s)
def gL (A : LV) (s p : Nat) : Int := ld A 15 (gM A s p) (gM A s (1 - p)) (gF A s)
def gC (A : LV) (s p : Nat) : Bool := cany A (gM A s p) (gF A s)
def gK (A : LV) (s p f : Nat) : Bool := cn A (gM A s p) (gF A s) f
def gu (p : Nat) (z : Int) : Int := if p = 0 then z else -z
/-- after the person takes the field -/
def gt' (s p f : Nat) : Nat := s + 3 ^ f * (p + 1)
def gSol (A : LV) (s : Nat) (μ : MI) : Prop := ∀ p, p < 2 → μ.1 79 (2 * s + p) = bI (gS A s p).isSome ∧ μ.1 80 (2 * s + p) = iI (gu p (gL A s p))
theorem dg_all (s : Nat) (hs : s < 729) (f : Nat) (hf : f < 6) (h : dg s f = 0) (p : Nat) (hp : p < 2) : s + 3 ^ f * (p + 1) < 729 ∧ ∀ g, g < 6 → dg (s + 3 ^ f * (p + 1)) g = if g = f then p + 1 else dg s g := by
  have hP : ∀ k, 0 < 3 ^ k := fun k => Nat.pow_pos (by decide)
  unfold dg at h
  have hd : (s + 3 ^ f * (p + 1)) / 3 ^ f = s / 3 ^ f + (p + 1) := Nat.add_mul_div_left s (p + 1) (hP f)
  constructor
  · obtain ⟨d, ed⟩ : ∃ d, 6 - f = d + 1 := ⟨5 - f, by omega⟩
    have e : (729 : Nat) = 3 ^ d * 3 * 3 ^ f := by
      have : (3 : Nat) ^ 6 = 3 ^ (d + 1 + f) := by congr 1; omega
      rw [Nat.pow_add, Nat.pow_succ] at this
      exact this
    have h1 : s / 3 ^ f < 3 ^ d * 3 := (Nat.div_lt_iff_lt_mul (hP f)).mpr (by omega)
    have h2 : s / 3 ^ f + (p + 1) < 3 ^ d * 3 := by
      generalize 3 ^ d = K at h1
      omega
    rw [← hd, Nat.div_lt_iff_lt_mul (hP f), ← e] at h2
    exact h2
  · intro g _
    unfold dg
    by_cases e : g = f
    · subst e
      rw [if_pos rfl, hd]
      omega
    · rw [if_neg e]
      by_cases l : g < f
      · obtain ⟨d, ed⟩ : ∃ d, f = g + (d + 1) := ⟨f - g - 1, by omega⟩
        have e3 : 3 ^ f * (p + 1) = 3 ^ g * (3 * (3 ^ d * (p + 1))) := by
          rw [ed, Nat.pow_add, Nat.pow_succ, Nat.mul_comm (3 ^ d) 3, Nat.mul_assoc, Nat.mul_assoc]
        rw [e3, Nat.add_mul_div_left s _ (hP g)]
        generalize 3 ^ d * (p + 1) = K
        omega
      · obtain ⟨d, ed⟩ : ∃ d, g = f + (1 + d) := ⟨g - f - 1, by omega⟩
        rw [ed, Nat.pow_add, ← Nat.div_div_eq_div_mul, ← Nat.div_div_eq_div_mul, hd, Nat.pow_add, Nat.pow_one, ← Nat.div_div_eq_div_mul, ← Nat.div_div_eq_div_mul]
        have : (s / 3 ^ f + (p + 1)) / 3 = s / 3 ^ f / 3 := by omega
        rw [this]
theorem gK_f {A : LV} {s p f : Nat} (h : gK A s p f = true) : f < A.n ∧ A.ow f = 0 ∧ dg s f = 0 := by
  have h := cn_F h
  rw [gF_tb, Bool.and_eq_true, Bool.and_eq_true, decide_eq_true_eq, decide_eq_true_eq, decide_eq_true_eq] at h
  exact ⟨h.1, h.2.1, h.2.2⟩
theorem gt_f {A : LV} (w : WF A) {s p f : Nat} (hs : s < 729) (hp : p < 2) (h : gK A s p f = true) : gt' s p f < 729 ∧ gM A (gt' s p f) (1 - p) = gM A s (1 - p) ∧ gM A (gt' s p f) (1 - (1 - p)) = mv (gM A s p) f ∧ gF A (gt' s p f) = rmv (gF A s) f := by
  have hn := w.n6
  obtain ⟨hf, h1, h2⟩ := gK_f h
  obtain ⟨e1, e2⟩ := dg_all s hs f (by omega) h2 p hp
  refine ⟨e1, ?_, ?_, ?_⟩
  · apply Nat.eq_of_testBit_eq
    intro g
    rw [gM_tb, gM_tb]
    by_cases hg : g < A.n
    · rw [show dg (gt' s p f) g = if g = f then p + 1 else dg s g from e2 g (by omega)]
      by_cases e : g = f
      · subst e
        rw [if_pos rfl, h2, decide_eq_false (show ¬ p + 1 = 1 - p + 1 by omega), decide_eq_false (show ¬ 0 = 1 - p + 1 by omega)]
      · rw [if_neg e]
    · rw [decide_eq_false hg, Bool.false_and, Bool.false_and]
  · rw [show 1 - (1 - p) = p by omega]
    apply Nat.eq_of_testBit_eq
    intro g
    rw [mv_tb, gM_tb, gM_tb]
    by_cases hg : g < A.n
    · rw [show dg (gt' s p f) g = if g = f then p + 1 else dg s g from e2 g (by omega)]
      by_cases e : g = f
      · subst e
        rw [if_pos rfl, decide_eq_true hg]; simp
      · rw [if_neg e, decide_eq_false (show ¬ f = g from fun z => e z.symm), Bool.or_false]
    · rw [decide_eq_false hg, Bool.false_and, Bool.false_and, decide_eq_false (show ¬ f = g by omega)]; rfl
  · apply Nat.eq_of_testBit_eq
    intro g
    rw [rmv_tb, gF_tb, gF_tb]
    by_cases hg : g < A.n
    · rw [show dg (gt' s p f) g = if g = f then p + 1 else dg s g from e2 g (by omega)]
      by_cases e : g = f
      · subst e
        rw [if_pos rfl, decide_eq_false (show ¬ p + 1 = 0 by omega)]; simp
      · rw [if_neg e, decide_eq_false (show ¬ f = g from fun z => e z.symm)]; simp
    · rw [decide_eq_false hg, Bool.false_and, Bool.false_and]; rfl
/-- the value of a move -/
def gV (A : LV) (s p f : Nat) : Int := 1 - gL A (gt' s p f) (1 - p)
theorem ld_s (A : LV) (r M T F : Nat) : ld A (r + 1) M T F = (if cany A M F = true then lmx (cn A M F) (fun f => 1 - ld A r T (mv M f) (rmv F f)) 6 else if cany A T F = true then -(ld A r T M F) else 0) := rfl
theorem wn_s (A : LV) (r M T F : Nat) : wn A (r + 1) M T F = fnd (fun f => cn A M F f && (wn A r T (mv M f) (rmv F f)).isNone) 6 := rfl
theorem gL_in {A : LV} (w : WF A) {s p : Nat} (hs : s < 729) (hp : p < 2) : gL A s p = if gC A s p = true then lmx (gK A s p) (gV A s p) 6 else if gC A s (1 - p) = true then -(gL A s (1 - p)) else 0 := by
  have f6 := fc_le (gF A s)
  have e : gL A s p = ld A 16 (gM A s p) (gM A s (1 - p)) (gF A s) := (ld_eq A (r := 15) (by omega) 1).symm
  have e2 : ld A 16 (gM A s p) (gM A s (1 - p)) (gF A s) = (if gC A s p = true then lmx (gK A s p) (fun f => 1 - ld A 15 (gM A s (1 - p)) (mv (gM A s p) f) (rmv (gF A s) f)) 6 else if gC A s (1 - p) = true then -(ld A 15 (gM A s (1 - p)) (gM A s p) (gF A s)) else 0) := ld_s A 15 (gM A s p) (gM A s (1 - p)) (gF A s)
  rw [e, e2]
  have e3 : gL A s (1 - p) = ld A 15 (gM A s (1 - p)) (gM A s p) (gF A s) := by
    unfold gL
    rw [show 1 - (1 - p) = p by omega]
  rw [e3]
  have e4 : lmx (gK A s p) (fun f => 1 - ld A 15 (gM A s (1 - p)) (mv (gM A s p) f) (rmv (gF A s) f)) 6 = lmx (gK A s p) (gV A s p) 6 := lmx_cg fun f _ hq => by
    obtain ⟨_, t1, t2, t3⟩ := gt_f w hs hp hq
    unfold gV gL
    rw [t1, t2, t3]
  rw [e4]
theorem gS_in {A : LV} (w : WF A) {s p : Nat} (hs : s < 729) (hp : p < 2) : gS A s p = fnd (fun f => gK A s p f && (gS A (gt' s p f) (1 - p)).isNone) 6 := by
  have f6 := fc_le (gF A s)
  have e : gS A s p = wn A 16 (gM A s p) (gM A s (1 - p)) (gF A s) := (wn_eq A (r := 15) (by omega) 1).symm
  have e2 : wn A 16 (gM A s p) (gM A s (1 - p)) (gF A s) = fnd (fun f => gK A s p f && (wn A 15 (gM A s (1 - p)) (mv (gM A s p) f) (rmv (gF A s) f)).isNone) 6 := wn_s A 15 (gM A s p) (gM A s (1 - p)) (gF A s)
  rw [e, e2]
  refine fnd_cg fun f _ => ?_
  cases q : gK A s p f
  · rw [Bool.false_and, Bool.false_and]
  · obtain ⟨_, t1, t2, t3⟩ := gt_f w hs hp q
    rw [Bool.true_and, Bool.true_and]
    unfold gS
    rw [t1, t2, t3]
theorem gL_b (A : LV) (s p : Nat) : -6 ≤ gL A s p ∧ gL A s p ≤ 6 := by
  have f6 := fc_le (gF A s)
  have := ld_b A 15 (gM A s p) (gM A s (1 - p)) (gF A s)
  unfold gL
  omega
theorem gV_b {A : LV} (w : WF A) {s p f : Nat} (hs : s < 729) (hp : p < 2) (h : gK A s p f = true) : -4 ≤ gV A s p f ∧ gV A s p f ≤ 6 := by
  have hn := w.n6
  obtain ⟨t0, t1, t2, t3⟩ := gt_f w hs hp h
  have f6 := fc_le (gF A s)
  have f5 := fc_rmv (show f < 6 by have := (gK_f h).1; omega) (cn_F h)
  have := ld_b A 15 (gM A (gt' s p f) (1 - p)) (gM A (gt' s p f) (1 - (1 - p))) (gF A (gt' s p f))
  rw [t3] at this
  unfold gV gL
  rw [t3]
  omega
theorem lmx_up {ok : Nat → Bool} {v : Nat → Int} {n : Nat} (h : ∀ k, n ≤ k → ok k = false) : ∀ k, lmx ok v (n + k) = lmx ok v n
  | 0 => rfl
  | k + 1 => by
    show (if ok (n + k) = true then _ else lmx ok v (n + k)) = _
    rw [if_neg (by rw [h (n + k) (by omega)]; decide), lmx_up h k]
theorem gK_o {A : LV} {s p k : Nat} (h : A.n ≤ k) : gK A s p k = false := by
  cases q : gK A s p k
  · rfl
  · have := (gK_f q).1; omega
theorem gC_n {A : LV} (w : WF A) (s p : Nat) : gC A s p = !(al (fun f => !(gK A s p f)) A.n) := by
  have hn := w.n6
  cases q : al (fun f => !(gK A s p f)) A.n
  · obtain ⟨k, hk, e⟩ := al_ex q
    have e : gK A s p k = true := by revert e; cases gK A s p k <;> simp
    cases q2 : gC A s p
    · have := cany_f q2 (show k < 6 by omega)
      rw [show cn A (gM A s p) (gF A s) k = true from e] at this; cases this
    · rfl
  · cases q2 : gC A s p
    · rfl
    · obtain ⟨f, hf, e⟩ := cany_t q2
      have e : gK A s p f = true := e
      have := al_iff.mp q f (gK_f e).1
      rw [e] at this; cases this
theorem gS_n {A : LV} (w : WF A) {s p : Nat} (hs : s < 729) (hp : p < 2) : (gS A s p).isSome = !(al (fun f => !(gK A s p f && (gS A (gt' s p f) (1 - p)).isNone)) A.n) := by
  have hn := w.n6
  rw [gS_in w hs hp]
  rcases fnd_cases (fun f => gK A s p f && (gS A (gt' s p f) (1 - p)).isNone) 6 with ⟨k, hk, hq, _, e⟩ | ⟨hall, e⟩
  · rw [e]
    have hK : gK A s p k = true := by
      have hq : (gK A s p k && (gS A (gt' s p k) (1 - p)).isNone) = true := hq
      rw [Bool.and_eq_true] at hq; exact hq.1
    cases q : al (fun f => !(gK A s p f && (gS A (gt' s p f) (1 - p)).isNone)) A.n
    · rfl
    · have := al_iff.mp q k (gK_f hK).1
      have hq : (gK A s p k && (gS A (gt' s p k) (1 - p)).isNone) = true := hq
      rw [hq] at this; cases this
  · rw [e]
    have : al (fun f => !(gK A s p f && (gS A (gt' s p f) (1 - p)).isNone)) A.n = true := al_iff.mpr fun k hk => by
      have := hall k (by omega)
      have this : (gK A s p k && (gS A (gt' s p k) (1 - p)).isNone) = false := this
      rw [this]; rfl
    rw [this]; rfl
