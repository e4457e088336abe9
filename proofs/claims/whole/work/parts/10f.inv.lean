/-! ===== the invariant of the law's loop ===== -/
def MV (d k v : Nat) (μ : MI) : Prop := k < 8 ∧ v < 10000 ∧ μ.1 (39 + 3 * d) 0 = nI k ∧ μ.1 (39 + 3 * d) 1 = nI (v / 1000) ∧ μ.1 (39 + 3 * d) 2 = nI (v / 100 % 10) ∧ μ.1 (39 + 3 * d) 3 = nI (v / 10 % 10) ∧ μ.1 (39 + 3 * d) 4 = nI (v % 10) ∧ μ.1 86 d = nI k ∧ μ.1 87 d = nI v
def RV (d s z : Nat) (μ : MI) : Prop := s < 3 ∧ z ≤ 100 ∧ μ.1 (38 + 3 * d) 1 = nI s ∧ μ.1 88 d = nI s ∧ μ.1 (38 + 3 * d) 2 = nI z ∧ μ.1 89 d = nI z ∧ (∀ i, i < 100 → μ.2 90 (100 * d + i) = (μ.1 (40 + 3 * d) i).toInt64) ∧ (s = 0 → ∀ i, i < 100 → -128 ≤ (μ.1 (40 + 3 * d) i).toInt ∧ (μ.1 (40 + 3 * d) i).toInt ≤ 127)
def SHR (d : Nat) (μ : MI) : Prop := ∃ h, h ≤ 2 ∧ μ.1 (38 + 3 * d) 0 = nI h ∧ μ.1 85 d = nI h ∧ (h = 1 → ∃ k v, MV d k v μ) ∧ (h = 2 → ∃ s z, RV d s z μ)
theorem MV.fr {d k v μ μ'} (h : MV d k v μ) (q : μ'.1 (39 + 3 * d) = μ.1 (39 + 3 * d)) (r : ∀ a, 85 ≤ a → a ≤ 89 → μ'.1 a d = μ.1 a d) : MV d k v μ' := by
  unfold MV
  rw [q, r 86 (by omega) (by omega), r 87 (by omega) (by omega)]
  exact h
theorem RV.fr {d s z μ μ'} (h : RV d s z μ) (q : ∀ a, 38 + 3 * d ≤ a → a ≤ 40 + 3 * d → μ'.1 a = μ.1 a) (r : ∀ a, 85 ≤ a → a ≤ 89 → μ'.1 a d = μ.1 a d) (l : ∀ i, i < 100 → μ'.2 90 (100 * d + i) = μ.2 90 (100 * d + i)) : RV d s z μ' := by
  unfold RV
  rw [q (38 + 3 * d) (by omega) (by omega), q (40 + 3 * d) (by omega) (by omega), r 88 (by omega) (by omega), r 89 (by omega) (by omega)]
  obtain ⟨h1, h2, h3, h4, h5, h6, h7, h8⟩ := h
  exact ⟨h1, h2, h3, h4, h5, h6, fun i hi => (l i hi).trans (h7 i hi), h8⟩
theorem SHR.fr {d μ μ'} (h : SHR d μ) (q : ∀ a, 38 + 3 * d ≤ a → a ≤ 40 + 3 * d → μ'.1 a = μ.1 a) (r : ∀ a, 85 ≤ a → a ≤ 89 → μ'.1 a d = μ.1 a d) (l : ∀ i, i < 100 → μ'.2 90 (100 * d + i) = μ.2 90 (100 * d + i)) : SHR d μ' := by
  obtain ⟨k, h1, h2, h3, h4, h5⟩ := h
  refine ⟨k, h1, ?_, ?_, fun e => ?_, fun e => ?_⟩
  · rw [q (38 + 3 * d) (by omega) (by omega)]; exact h2
  · rw [r 85 (by omega) (by omega)]; exact h3
  · obtain ⟨a, b, g⟩ := h4 e; exact ⟨a, b, g.fr (q _ (by omega) (by omega)) r⟩
  · obtain ⟨a, b, g⟩ := h5 e; exact ⟨a, b, g.fr q r l⟩
/-- the reference's image in 83 -/
def IR (c : Nat) (A : LV) (μ : MI) : Prop := μ.1 c 0 = nI A.n ∧ μ.1 c 3 = nI A.p ∧ μ.1 c 1 = bI A.C ∧ μ.1 c 2 = bI A.K ∧ (∀ f, f < A.n → μ.1 c (4 + 2 * f) = nI (A.ac f)) ∧ (∀ f, f < A.n → μ.1 c (5 + 2 * f) = nI (A.ow f)) ∧ (∀ a b, a < A.n → b < A.n → μ.1 c (16 + (6 * a + b)) = nI (A.to a b)) ∧ (∀ q, q < A.p → μ.1 c (52 + 2 * q) = iI (A.co q)) ∧ (∀ q, q < A.p → μ.1 c (53 + 2 * q) = iI (A.ki q - 1)) ∧ (∀ q f, q < A.p → f < A.n → μ.1 c (58 + (6 * q + f)) = nI (A.wo q f))
theorem IR.fr {c A μ μ'} (h : IR c A μ) (q : μ'.1 c = μ.1 c) : IR c A μ' := by unfold IR; rw [q]; exact h
/-- coins as they are between calls -/
def CO (A : LV) : Prop := ∀ q, q < A.p → 0 ≤ A.co q ∧ A.co q ≤ 999
/-- the reference's purses, theirs too who aren't there, are never below 0 -/
def PU (μ : MI) : Prop := (∀ q, q < 3 → 0 ≤ (μ.1 65 q).toInt) ∧ ∀ q, q < 3 → 0 ≤ (μ.1 83 (52 + 2 * q)).toInt
def IM0 (μ : MI) : Prop := (μ.1 0 3 = bI false ∧ μ.1 62 37 = bI false) ∨ (μ.1 0 3 = bI true ∧ μ.1 62 37 = bI true ∧ ∃ B, WF B ∧ CO B ∧ CR 15 B μ ∧ IR 83 B μ)
def IMG (μ : MI) : Prop := PU μ ∧ IM0 μ
def INV (μ : MI) : Prop := (∃ A, WF A ∧ CO A ∧ CR 1 A μ ∧ MR A μ) ∧ IMG μ ∧ ∀ d, d < 8 → SHR d μ
theorem IM0.fr {μ μ'} (h : IM0 μ) (q1 : μ'.1 0 3 = μ.1 0 3) (q2 : μ'.1 62 37 = μ.1 62 37) (q3 : ∀ a, 15 ≤ a → a ≤ 21 → μ'.1 a = μ.1 a) (q4 : μ'.1 83 = μ.1 83) : IM0 μ' := by
  unfold IM0
  rw [q1, q2]
  rcases h with h | ⟨h1, h2, B, h3, h4, h5, h6⟩
  · exact Or.inl h
  · exact Or.inr ⟨h1, h2, B, h3, h4, h5.fr q3, h6.fr q4⟩
theorem IMG.fr {μ μ'} (h : IMG μ) (q0 : ∀ q, q < 3 → 0 ≤ (μ'.1 65 q).toInt) (q1 : μ'.1 0 3 = μ.1 0 3) (q2 : μ'.1 62 37 = μ.1 62 37) (q3 : ∀ a, 15 ≤ a → a ≤ 21 → μ'.1 a = μ.1 a) (q4 : μ'.1 83 = μ.1 83) : IMG μ' :=
  ⟨⟨q0, fun q hq => by rw [q4]; exact h.1.2 q hq⟩, h.2.fr q1 q2 q3 q4⟩
/-- where the land's own cells may have changed too -/
def pL (a j : Nat) : Prop := pC a j ∨ pM a j ∨ (1 ≤ a ∧ a ≤ 7) ∨ (62 ≤ a ∧ a ≤ 68 ∧ ¬ (a = 62 ∧ j = 37))
theorem INV.land {μ μ'} (h : INV μ) (g : ag pL μ μ') {A : LV} (w : WF A) (c : CO A) (k1 : CR 1 A μ') (k2 : MR A μ') (q0 : ∀ q, q < 3 → 0 ≤ (μ'.1 65 q).toInt) : INV μ' := by
  have z : ∀ a j, ¬ pL a j → μ'.1 a j = μ.1 a j := g.1
  refine ⟨⟨A, w, c, k1, k2⟩, h.2.1.fr q0 ?_ ?_ ?_ ?_, fun d hd => (h.2.2 d hd).fr ?_ ?_ ?_⟩
  · exact z 0 3 (by unfold pL pC pM; omega)
  · exact z 62 37 (by unfold pL pC pM; omega)
  · exact fun a h1 h2 => funext fun j => z a j (by unfold pL pC pM; omega)
  · exact funext fun j => z 83 j (by unfold pL pC pM; omega)
  · exact fun a h1 h2 => funext fun j => z a j (by unfold pL pC pM; omega)
  · exact fun a h1 h2 => z a d (by unfold pL pC pM; omega)
  · exact fun i hi => by rw [g.2]
theorem INV.same {μ μ'} (h : INV μ) (g : ag (fun a j => pC a j ∨ pM a j) μ μ') : INV μ' := by
  obtain ⟨A, w, c, k1, k2⟩ := h.1
  refine h.land (ag_mo g (fun a j q => ?_)) w c (k1.tg g (fun a j h1 h2 q => ?_)) (k2.tg g (fun a j q => ?_)) (fun q hq => by rw [g.1 65 q (by unfold pC pM; omega)]; exact h.2.1.1.1 q hq)
  · unfold pL
    rcases q with q | q
    · exact Or.inl q
    · exact Or.inr (Or.inl q)
  · unfold pC pM at q; omega
  · rcases q with q | q
    · unfold pC at q; unfold pM; omega
    · exact Or.inl q
/-! one op, from what each side answers -/
theorem Lc_same {μ μ1 μ2 : MI} (h : INV μ) (g1 : ag pC μ μ1) (g2 : ag pM μ1 μ2) : INV μ2 := h.same (ag_tr (ag_mo g1 (fun _ _ q => Or.inl q)) (ag_mo g2 (fun _ _ q => Or.inr q)))
theorem MR.agC {A μ μ1} (h : MR A μ) (g : ag pC μ μ1) : MR A μ1 := h.tg g (fun a j q => by unfold pC at q; unfold pM; omega)
theorem ag_62 {μ : MI} {j : Nat} {x : Int32} (h : j ≠ 0 ∧ j ≠ 3 ∧ j ≠ 4 ∧ j ≠ 5 ∧ j ≠ 37) : ag pM μ (si μ 62 j x) := ag_si (Or.inl ⟨rfl, h⟩)
theorem ag_69 {μ μ1 : MI} (h : ag (fun a _ => a = 69) μ μ1) : ag pM μ μ1 := ag_mo h (fun a j e => Or.inr (Or.inl (by omega)))
theorem MR.agM {A μ μ1} (h : MR A μ) (g : ag pM μ μ1) : MR A μ1 := h.tg g (fun a j q => Or.inl q)
theorem thr0 {μ : MI} : stF μ 62 10 0 = some (si μ 62 10 (nI 0)) := rfl
/-- where shelves may have changed -/
theorem INV.shelf {μ μ'} (h : INV μ) (g : ∀ a j, ¬ (pC a j ∨ pM a j ∨ (38 ≤ a ∧ a ≤ 61) ∨ (85 ≤ a ∧ a ≤ 89)) → μ'.1 a j = μ.1 a j) (hs : ∀ d, d < 8 → SHR d μ') : INV μ' := by
  obtain ⟨A, w, c, k1, k2⟩ := h.1
  have z : ∀ a, (∀ j, ¬ (pC a j ∨ pM a j ∨ (38 ≤ a ∧ a ≤ 61) ∨ (85 ≤ a ∧ a ≤ 89))) → μ'.1 a = μ.1 a := fun a q => funext fun j => g a j (q j)
  refine ⟨⟨A, w, c, k1.fr fun a h1 h2 => z a fun j => ?_, k2.fr (g _ _ ?_) (g _ _ ?_) (g _ _ ?_) (g _ _ ?_) fun a h1 h2 => z a fun j => ?_⟩, h.2.1.fr (fun q hq => by rw [g 65 q (by unfold pC pM; omega)]; exact h.2.1.1.1 q hq) (g _ _ ?_) (g _ _ ?_) (fun a h1 h2 => z a fun j => ?_) (z _ fun j => ?_), hs⟩
  all_goals (unfold pC pM; omega)
