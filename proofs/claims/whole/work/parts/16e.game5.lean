/-! ===== game, value: the reference solves one state ===== -/
theorem lmx_none {ok : Nat → Bool} {v : Nat → Int} : ∀ {n : Nat}, al (fun k => !(ok k)) n = true → lmx ok v n = -6
  | 0, _ => rfl
  | n + 1, h => by
    unfold al at h
    rw [Bool.and_eq_true] at h
    show (if ok n = true then _ else lmx ok v n) = _
    have : ok n = false := by revert h; cases ok n <;> simp
    rw [this, if_neg (by decide)]
    exact lmx_none h.1
/-- what is best so far -/
def gB (A : LV) (s p k : Nat) : Int := if al (fun f => !(gK A s p f)) k = true then 0 else gu p (lmx (gK A s p) (gV A s p) k)
def gW (A : LV) (s p k : Nat) : Bool := !(al (fun f => !(gK A s p f && (gS A (gt' s p f) (1 - p)).isNone)) k)
theorem gB_s {A : LV} {s p k : Nat} (h : gK A s p k = false) : gB A s p (k + 1) = gB A s p k := by
  unfold gB
  have e1 : al (fun f => !(gK A s p f)) (k + 1) = al (fun f => !(gK A s p f)) k := by
    show (al (fun f => !(gK A s p f)) k && !(gK A s p k)) = _
    rw [h]; exact Bool.and_true _
  have e2 : lmx (gK A s p) (gV A s p) (k + 1) = lmx (gK A s p) (gV A s p) k := by
    show (if gK A s p k = true then _ else lmx (gK A s p) (gV A s p) k) = _
    rw [h, if_neg (by decide)]
  rw [e1, e2]
theorem gW_s {A : LV} {s p k : Nat} (h : gK A s p k = false) : gW A s p (k + 1) = gW A s p k := by
  unfold gW
  congr 1
  show (al (fun f => !(gK A s p f && (gS A (gt' s p f) (1 - p)).isNone)) k && !(gK A s p k && (gS A (gt' s p k) (1 - p)).isNone)) = _
  rw [h, Bool.false_and]; exact Bool.and_true _
theorem gW_t {A : LV} {s p k : Nat} (h : gK A s p k = true) : gW A s p (k + 1) = (gW A s p k || (gS A (gt' s p k) (1 - p)).isNone) := by
  unfold gW
  show (!(al (fun f => !(gK A s p f && (gS A (gt' s p f) (1 - p)).isNone)) k && !(gK A s p k && (gS A (gt' s p k) (1 - p)).isNone))) = _
  rw [h, Bool.true_and, Bool.not_and, Bool.not_not]
theorem gB_t {A : LV} (w : WF A) {s p k : Nat} (hs : s < 729) (hp : p < 2) (h : gK A s p k = true) : gB A s p (k + 1) = if al (fun f => !(gK A s p f)) k = true then gu p (gV A s p k) else if p = 0 then max (gB A s p k) (gu p (gV A s p k)) else min (gB A s p k) (gu p (gV A s p k)) := by
  have vb := gV_b w hs hp h
  have e1 : al (fun f => !(gK A s p f)) (k + 1) = false := by
    show (al (fun f => !(gK A s p f)) k && !(gK A s p k)) = _
    rw [h]; exact Bool.and_false _
  have e2 : lmx (gK A s p) (gV A s p) (k + 1) = max (lmx (gK A s p) (gV A s p) k) (gV A s p k) := by
    show (if gK A s p k = true then max (lmx (gK A s p) (gV A s p) k) (gV A s p k) else _) = _
    rw [if_pos h]
  unfold gB
  rw [e1, if_neg (by decide), e2]
  by_cases q : al (fun f => !(gK A s p f)) k = true
  · rw [if_pos q, lmx_none q]
    congr 1
    omega
  · rw [if_neg q, if_neg q]
    unfold gu
    by_cases z : p = 0
    · rw [if_pos z, if_pos z, if_pos z, if_pos z]
    · rw [if_neg z, if_neg z, if_neg z, if_neg z]
      omega
