/-! ===== the land's value; class's and reference's pictures of it ===== -/
def LV : Type := Nat × Nat × Bool × Bool × (Nat → Nat) × (Nat → Nat) × (Nat → Nat → Nat) × (Nat → Int) × (Nat → Nat) × (Nat → Nat → Nat)
def LV.n (A : LV) : Nat := A.1
def LV.p (A : LV) : Nat := A.2.1
def LV.C (A : LV) : Bool := A.2.2.1
def LV.K (A : LV) : Bool := A.2.2.2.1
def LV.ac (A : LV) : Nat → Nat := A.2.2.2.2.1
def LV.ow (A : LV) : Nat → Nat := A.2.2.2.2.2.1
def LV.to (A : LV) : Nat → Nat → Nat := A.2.2.2.2.2.2.1
def LV.co (A : LV) : Nat → Int := A.2.2.2.2.2.2.2.1
def LV.ki (A : LV) : Nat → Nat := A.2.2.2.2.2.2.2.2.1
def LV.wo (A : LV) : Nat → Nat → Nat := A.2.2.2.2.2.2.2.2.2
/-- 9 for nobody, as the class has it -/
def cl (o : Nat) : Nat := if o = 0 then 9 else o - 1
theorem cl_0 : cl 0 = 9 := rfl
theorem cl_s (o : Nat) : cl (o + 1) = o := rfl
theorem cl_lt {o p : Nat} (h : o ≤ p) (hp : p ≤ 3) : cl o < 10 := by unfold cl; split <;> omega
theorem cl_inj {o q p : Nat} (h : o ≤ p) (h2 : q ≤ p) (hp : p ≤ 3) : (cl o = cl q) = (o = q) := by unfold cl; apply propext; split <;> split <;> omega
theorem cl_9 {o p : Nat} (h : o ≤ p) (hp : p ≤ 3) : (cl o = 9) = (o = 0) := by unfold cl; apply propext; split <;> omega
theorem cl_ltp {o p : Nat} (h : o ≤ p) (hp : p ≤ 3) : (cl o < p) = (o ≠ 0) := by unfold cl; apply propext; split <;> omega
/-- what every land is, mind's too -/
def WF (A : LV) : Prop := A.n ≤ 6 ∧ A.p ≤ 3 ∧ (∀ f, f < A.n → 1 ≤ A.ac f ∧ A.ac f ≤ 9) ∧ (∀ f, f < A.n → A.ow f ≤ A.p) ∧ (∀ a b, A.to a b = A.to b a) ∧ (∀ a b, A.to a b ≤ 3) ∧ (∀ a, A.to a a = 0) ∧ (∀ a b, A.n ≤ b → A.to a b = 0) ∧ (∀ q, q < A.p → A.ki q ≤ A.p) ∧ (∀ q f, q < A.p → f < A.n → A.wo q f ≤ 99)
theorem WF.n6 {A : LV} (h : WF A) : A.n ≤ 6 := h.1
theorem WF.p3 {A : LV} (h : WF A) : A.p ≤ 3 := h.2.1
theorem WF.acl {A : LV} (h : WF A) {f : Nat} (hf : f < A.n) : 1 ≤ A.ac f ∧ A.ac f ≤ 9 := h.2.2.1 f hf
theorem WF.owl {A : LV} (h : WF A) {f : Nat} (hf : f < A.n) : A.ow f ≤ A.p := h.2.2.2.1 f hf
theorem WF.sy {A : LV} (h : WF A) (a b : Nat) : A.to a b = A.to b a := h.2.2.2.2.1 a b
theorem WF.t3 {A : LV} (h : WF A) (a b : Nat) : A.to a b ≤ 3 := h.2.2.2.2.2.1 a b
theorem WF.di {A : LV} (h : WF A) (a : Nat) : A.to a a = 0 := h.2.2.2.2.2.2.1 a
theorem WF.ou {A : LV} (h : WF A) {a b : Nat} (hb : A.n ≤ b) : A.to a b = 0 := h.2.2.2.2.2.2.2.1 a b hb
theorem WF.ou2 {A : LV} (h : WF A) {a b : Nat} (hb : A.n ≤ a) : A.to a b = 0 := (h.sy a b).trans (h.ou hb)
theorem WF.kil {A : LV} (h : WF A) {q : Nat} (hq : q < A.p) : A.ki q ≤ A.p := h.2.2.2.2.2.2.2.2.1 q hq
theorem WF.wol {A : LV} (h : WF A) {q f : Nat} (hq : q < A.p) (hf : f < A.n) : A.wo q f ≤ 99 := h.2.2.2.2.2.2.2.2.2 q f hq hf
/-- the class's Land at the cell t -/
def CR (t : Nat) (A : LV) (μ : MI) : Prop := μ.1 t 0 = nI A.n ∧ μ.1 t 1 = nI A.p ∧ μ.1 t 2 = bI A.C ∧ μ.1 t 3 = bI A.K ∧ (∀ f, f < A.n → μ.1 (t + 1) f = nI (A.ac f)) ∧ (∀ f, f < A.n → μ.1 (t + 2) f = nI (cl (A.ow f))) ∧ (∀ a b, a < 6 → b < 6 → μ.1 (t + 3) (a * 6 + b) = nI (A.to a b)) ∧ (∀ q, q < A.p → μ.1 (t + 4) q = iI (A.co q)) ∧ (∀ q, q < A.p → μ.1 (t + 5) q = nI (cl (A.ki q))) ∧ (∀ q f, q < A.p → f < A.n → μ.1 (t + 6) (q * 6 + f) = nI (A.wo q f))
theorem CR.hn {t A μ} (h : CR t A μ) : μ.1 t 0 = nI A.n := h.1
theorem CR.hp {t A μ} (h : CR t A μ) : μ.1 t 1 = nI A.p := h.2.1
theorem CR.hC {t A μ} (h : CR t A μ) : μ.1 t 2 = bI A.C := h.2.2.1
theorem CR.hK {t A μ} (h : CR t A μ) : μ.1 t 3 = bI A.K := h.2.2.2.1
theorem CR.hac {t A μ} (h : CR t A μ) {f : Nat} (hf : f < A.n) : μ.1 (t + 1) f = nI (A.ac f) := h.2.2.2.2.1 f hf
theorem CR.how {t A μ} (h : CR t A μ) {f : Nat} (hf : f < A.n) : μ.1 (t + 2) f = nI (cl (A.ow f)) := h.2.2.2.2.2.1 f hf
theorem CR.hto {t A μ} (h : CR t A μ) {a b : Nat} (ha : a < 6) (hb : b < 6) : μ.1 (t + 3) (a * 6 + b) = nI (A.to a b) := h.2.2.2.2.2.2.1 a b ha hb
theorem CR.hco {t A μ} (h : CR t A μ) {q : Nat} (hq : q < A.p) : μ.1 (t + 4) q = iI (A.co q) := h.2.2.2.2.2.2.2.1 q hq
theorem CR.hki {t A μ} (h : CR t A μ) {q : Nat} (hq : q < A.p) : μ.1 (t + 5) q = nI (cl (A.ki q)) := h.2.2.2.2.2.2.2.2.1 q hq
theorem CR.hwo {t A μ} (h : CR t A μ) {q f : Nat} (hq : q < A.p) (hf : f < A.n) : μ.1 (t + 6) (q * 6 + f) = nI (A.wo q f) := h.2.2.2.2.2.2.2.2.2 q f hq hf
theorem CR.fr {t A μ μ'} (h : CR t A μ) (q : ∀ a, t ≤ a → a ≤ t + 6 → μ'.1 a = μ.1 a) : CR t A μ' := by
  unfold CR
  rw [q t (by omega) (by omega), q (t + 1) (by omega) (by omega), q (t + 2) (by omega) (by omega), q (t + 3) (by omega) (by omega), q (t + 4) (by omega) (by omega), q (t + 5) (by omega) (by omega), q (t + 6) (by omega) (by omega)]
  exact h
theorem CR.tg {t A μ μ'} {P : Nat → Nat → Prop} (h : CR t A μ) (g : ag P μ μ') (q : ∀ a j, t ≤ a → a ≤ t + 6 → ¬ P a j) : CR t A μ' := h.fr fun a h1 h2 => funext fun j => g.1 a j (q a j h1 h2)
theorem CR.sx {t A μ} (h : CR t A μ) {b j : Nat} {x : Int32} (q : b < t ∨ t + 6 < b) : CR t A (si μ b j x) := h.fr fun a h1 h2 => si_ne (by omega)
/-- the reference's -/
def MR (A : LV) (μ : MI) : Prop := μ.1 62 0 = nI A.n ∧ μ.1 62 5 = nI A.p ∧ μ.1 62 3 = bI A.C ∧ μ.1 62 4 = bI A.K ∧ (∀ f, f < A.n → μ.1 63 f = nI (A.ac f)) ∧ (∀ f, f < A.n → μ.1 68 f = nI (A.ow f)) ∧ (∀ a b, a < A.n → b < A.n → μ.1 64 (6 * a + b) = nI (A.to a b)) ∧ (∀ q, q < A.p → μ.1 65 q = iI (A.co q)) ∧ (∀ q, q < A.p → μ.1 66 q = iI (A.ki q - 1)) ∧ (∀ q f, q < A.p → f < A.n → μ.1 67 (6 * q + f) = nI (A.wo q f))
theorem MR.hn {A μ} (h : MR A μ) : μ.1 62 0 = nI A.n := h.1
theorem MR.hp {A μ} (h : MR A μ) : μ.1 62 5 = nI A.p := h.2.1
theorem MR.hC {A μ} (h : MR A μ) : μ.1 62 3 = bI A.C := h.2.2.1
theorem MR.hK {A μ} (h : MR A μ) : μ.1 62 4 = bI A.K := h.2.2.2.1
theorem MR.hac {A μ} (h : MR A μ) {f : Nat} (hf : f < A.n) : μ.1 63 f = nI (A.ac f) := h.2.2.2.2.1 f hf
theorem MR.how {A μ} (h : MR A μ) {f : Nat} (hf : f < A.n) : μ.1 68 f = nI (A.ow f) := h.2.2.2.2.2.1 f hf
theorem MR.hto {A μ} (h : MR A μ) {a b : Nat} (ha : a < A.n) (hb : b < A.n) : μ.1 64 (6 * a + b) = nI (A.to a b) := h.2.2.2.2.2.2.1 a b ha hb
theorem MR.hco {A μ} (h : MR A μ) {q : Nat} (hq : q < A.p) : μ.1 65 q = iI (A.co q) := h.2.2.2.2.2.2.2.1 q hq
theorem MR.hki {A μ} (h : MR A μ) {q : Nat} (hq : q < A.p) : μ.1 66 q = iI (A.ki q - 1) := h.2.2.2.2.2.2.2.2.1 q hq
theorem MR.hwo {A μ} (h : MR A μ) {q f : Nat} (hq : q < A.p) (hf : f < A.n) : μ.1 67 (6 * q + f) = nI (A.wo q f) := h.2.2.2.2.2.2.2.2.2 q f hq hf
theorem MR.fr {A μ μ'} (h : MR A μ) (q0 : μ'.1 62 0 = μ.1 62 0) (q3 : μ'.1 62 3 = μ.1 62 3) (q4 : μ'.1 62 4 = μ.1 62 4) (q5 : μ'.1 62 5 = μ.1 62 5) (q : ∀ a, 63 ≤ a → a ≤ 68 → μ'.1 a = μ.1 a) : MR A μ' := by
  unfold MR
  rw [q0, q3, q4, q5, q 63 (by omega) (by omega), q 64 (by omega) (by omega), q 65 (by omega) (by omega), q 66 (by omega) (by omega), q 67 (by omega) (by omega), q 68 (by omega) (by omega)]
  exact h
/-- what the reference may write at any call -/
def pM (a j : Nat) : Prop := (a = 62 ∧ j ≠ 0 ∧ j ≠ 3 ∧ j ≠ 4 ∧ j ≠ 5 ∧ j ≠ 37) ∨ (69 ≤ a ∧ a ≤ 82) ∨ a = 84
/-- what the class may -/
def pC (a _j : Nat) : Prop := (8 ≤ a ∧ a ≤ 14) ∨ (23 ≤ a ∧ a ≤ 37)
theorem MR.tg {A μ μ'} {P : Nat → Nat → Prop} (h : MR A μ) (g : ag P μ μ') (q : ∀ a j, P a j → pM a j ∨ a < 62) : MR A μ' := by
  have z : ∀ a j, (a = 62 ∧ (j = 0 ∨ j = 3 ∨ j = 4 ∨ j = 5)) ∨ (63 ≤ a ∧ a ≤ 68) → μ'.1 a j = μ.1 a j := fun a j w => g.1 a j fun y => by
    have := q a j y
    unfold pM at this
    omega
  exact h.fr (z _ _ (by omega)) (z _ _ (by omega)) (z _ _ (by omega)) (z _ _ (by omega)) (fun a h1 h2 => funext fun j => z a j (by omega))
theorem MR.sx {A μ} (h : MR A μ) {b j : Nat} {x : Int32} (q : pM b j ∨ b < 62) : MR A (si μ b j x) := h.tg (P := fun a k => a = b ∧ k = j) (ag_si ⟨rfl, rfl⟩) (by rintro a k ⟨rfl, rfl⟩; exact q)
/-! the law -/
def LV.br (A : LV) (a b : Nat) : Bool := A.to a b == 1 || (A.to a b == 3 && A.C)
def LV.one (A : LV) (o q : Nat) : Bool := decide (o ≠ 0) && decide (q ≠ 0) && (decide (o = q) || (A.K && (decide (A.ki (o - 1) = q) || decide (A.ki (q - 1) = o))))
def bad (A : LV) (g : Nat → Nat) (a b : Nat) : Bool := A.br a b && A.one (g a) (g b)
theorem br_sy {A : LV} (h : WF A) (a b : Nat) : A.br a b = A.br b a := by unfold LV.br; rw [h.sy a b]
theorem br_di {A : LV} (h : WF A) (a : Nat) : A.br a a = false := by unfold LV.br; rw [h.di a]; rfl
theorem br_ou {A : LV} (h : WF A) {a b : Nat} (hb : A.n ≤ b) : A.br a b = false := by unfold LV.br; rw [h.ou hb]; rfl
theorem br_ou2 {A : LV} (h : WF A) {a b : Nat} (hb : A.n ≤ a) : A.br a b = false := by rw [br_sy h, br_ou h hb]
theorem one_sy {A : LV} (o q : Nat) : A.one o q = A.one q o := by
  unfold LV.one
  have e : decide (o = q) = decide (q = o) := decide_eq_decide.mpr eq_comm
  rw [e, Bool.and_comm (decide (o ≠ 0)), Bool.or_comm (decide (A.ki (o - 1) = q))]
theorem one_0 {A : LV} (q : Nat) : A.one 0 q = false := rfl
theorem one_0r {A : LV} (q : Nat) : A.one q 0 = false := by rw [one_sy, one_0]
theorem bad_sy {A : LV} (h : WF A) (g : Nat → Nat) (a b : Nat) : bad A g a b = bad A g b a := by unfold bad; rw [br_sy h, one_sy]
theorem bad_di {A : LV} (h : WF A) (g : Nat → Nat) (a : Nat) : bad A g a a = false := by unfold bad; rw [br_di h]; rfl
/-- the first two that are owned unlawfully -/
def fo (A : LV) (g : Nat → Nat) : Option Nat := (fnd (fun a => (fnd (fun j => bad A g a (a + 1 + j)) (A.n - (a + 1))).isSome) A.n).elim none (fun a => (fnd (fun j => bad A g a (a + 1 + j)) (A.n - (a + 1))).elim none (fun j => some (10 * a + (a + 1 + j))))
def lw (A : LV) (g : Nat → Nat) : Bool := al (fun a => al (fun b => !bad A g a b) a) A.n
theorem lw_iff {A : LV} (h : WF A) {g : Nat → Nat} : lw A g = true ↔ ∀ a b, a < A.n → b < A.n → bad A g a b = false := by
  unfold lw
  rw [al_iff]
  constructor
  · intro q a b ha hb
    have k1 : ∀ a b, a < A.n → b < a → bad A g a b = false := fun a b ha hb => by
      have := (al_iff.mp (q a ha)) b hb
      simpa using this
    rcases Nat.lt_trichotomy a b with e | e | e
    · rw [bad_sy h]; exact k1 b a hb e
    · subst e; exact bad_di h g a
    · exact k1 a b ha e
  · intro q a ha
    rw [al_iff]
    intro b hb
    rw [q a b ha (by omega)]; rfl
theorem fo_lw {A : LV} (h : WF A) (g : Nat → Nat) : (fo A g).isNone = lw A g := by
  rw [Bool.eq_iff_iff, lw_iff h]
  unfold fo
  rcases fnd_cases (fun a => (fnd (fun j => bad A g a (a + 1 + j)) (A.n - (a + 1))).isSome) A.n with ⟨k, hk, hp, hm, e⟩ | ⟨hall, e⟩
  · rw [e]
    rcases fnd_cases (fun j => bad A g k (k + 1 + j)) (A.n - (k + 1)) with ⟨j, hj, hq, _, e2⟩ | ⟨_, e2⟩
    · show ((fnd (fun j => bad A g k (k + 1 + j)) (A.n - (k + 1))).elim none (fun j => some (10 * k + (k + 1 + j)))).isNone = true ↔ _
      rw [e2]
      constructor
      · intro q; cases q
      · intro q
        have := q k (k + 1 + j) hk (by omega)
        rw [this] at hq; cases hq
    · simp only [e2] at hp; cases hp
  · rw [e]
    constructor
    · intro _ a b ha hb
      have k1 : ∀ a b, a < b → b < A.n → bad A g a b = false := fun a b hab hb => by
        have h1 := hall a (by omega)
        have h2 : fnd (fun j => bad A g a (a + 1 + j)) (A.n - (a + 1)) = none := by
          cases hq : fnd (fun j => bad A g a (a + 1 + j)) (A.n - (a + 1))
          · rfl
          · simp only [hq] at h1; cases h1
        have h3 := fnd_isNone.mp h2 (b - (a + 1)) (by omega)
        have h4 : a + 1 + (b - (a + 1)) = b := by omega
        rw [h4] at h3; exact h3
      rcases Nat.lt_trichotomy a b with e | e | e
      · exact k1 a b e hb
      · subst e; exact bad_di h g a
      · rw [bad_sy h]; exact k1 b a e ha
    · intro _; rfl
def LV.wt (A : LV) (o f : Nat) : Nat := if o = 0 then 0 else A.wo (o - 1) f
theorem wt_0 (A : LV) (f : Nat) : A.wt 0 f = 0 := rfl
theorem wt_s (A : LV) (q f : Nat) : A.wt (q + 1) f = A.wo q f := rfl
theorem wt_le {A : LV} (h : WF A) {o f : Nat} (ho : o ≤ A.p) (hf : f < A.n) : A.wt o f ≤ 99 := by
  unfold LV.wt
  split
  · omega
  · exact h.wol (by omega) hf
def msk (B : Nat) (g : Nat → Nat) (f : Nat) : Nat := if B.testBit f = true then 0 else g f
