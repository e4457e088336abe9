/-! ===== moves: the reference's side ===== -/
def MM (k q f o g : Nat) (μ : MI) : Prop := μ.1 62 26 = nI k ∧ μ.1 62 22 = nI q ∧ μ.1 62 23 = nI f ∧ μ.1 62 24 = nI o ∧ μ.1 62 25 = nI g
theorem MM.fr {k q f o g μ μ'} (h : MM k q f o g μ) (e : ∀ j, 22 ≤ j → j ≤ 26 → μ'.1 62 j = μ.1 62 j) : MM k q f o g μ' := by
  unfold MM
  rw [e 26 (by omega) (by omega), e 22 (by omega) (by omega), e 23 (by omega) (by omega), e 24 (by omega) (by omega), e 25 (by omega) (by omega)]
  exact h
theorem m_isAsTold {A : LV} {μ : MI} {k q f o g : Nat} (h : MR A μ) (w : WF A) (hm : MM k q f o g μ) (ht : thr_ A k q f o g) : M_isAsTold μ = some (told A k q f o g) := by
  have hn := w.n6
  have hp := w.p3
  obtain ⟨m0, m1, m2, m3, m4⟩ := hm
  obtain ⟨h1, h2, h3, h4, h5, h6, h7⟩ := ht
  have o1 := w.owl h3
  have e1 : (nI (A.ow f) = nI (q + 1)) = (A.ow f = q + 1) := by rw [nI_eq (by omega) (by omega)]
  have e2 : (nI f = nI o) = (f = o) := by rw [nI_eq (by omega) (by omega)]
  have e3 : (nI f = nI g) = (f = g) := by rw [nI_eq (by omega) (by omega)]
  have e4 : (nI o = nI g) = (o = g) := by rw [nI_eq (by omega) (by omega)]
  have own : ldA 6 μ 68 (nI f) = some (nI (A.ow f)) := by rw [ldA_n (by omega) (by omega), h.how h3]
  have q1 : nI q + 1 = nI (q + 1) := by rw [li_1, nI_add]
  unfold M_isAsTold told
  rw [m0, m1, m2, m3, m4, own, q1]
  simp only [Option.bind_some, ne_eq, e1, e2, e3, e4]
  rcases (by omega : k = 0 ∨ k = 1 ∨ k = 2 ∨ k = 3 ∨ k = 4 ∨ k = 5 ∨ k = 6 ∨ k = 7) with rfl | rfl | rfl | rfl | rfl | rfl | rfl | rfl
  · rfl
  · rfl
  · rfl
  · show ((if ¬ f = o then (if ¬ f = g then some (decide (¬ o = g)) else some false) else some false) : Option Bool).bind _ = some (decide (f ≠ o ∧ f ≠ g ∧ o ≠ g))
    by_cases g1 : f = o
    · simp [g1]
    · by_cases g2 : f = g
      · simp [g1, g2]
      · simp [g1, g2]
  · rfl
  · have h8 := h6 (by omega)
    have t3 := w.t3 f o
    show ((if ¬ f = o then ((ldA 36 μ 64 ((6 * nI f) + nI o)).bind fun x46 => some (decide (x46 = 1))) else some false) : Option Bool).bind _ = some (decide (A.to f o = 1))
    by_cases g1 : f = o
    · rw [if_neg (fun z => z g1), g1, w.di]; rfl
    · rw [if_pos g1, li_6, pk_mul, nI_add, ldA_n (by omega) (by omega), h.hto h3 h8]
      have e5 : (nI (A.to f o) = 1) = (A.to f o = 1) := by rw [li_1, nI_eq (by omega) (by omega)]
      simp only [Option.bind_some, e5]
  · rfl
  · rfl
theorem m_changeOwners {A : LV} {μ : MI} {k q f o g : Nat} (h : MR A μ) (w : WF A) (hm : MM k q f o g μ) (ht : thr_ A k q f o g) : ∃ μ', M_changeOwners μ = some μ' ∧ OW A (nOw A k q f o g) μ' ∧ ag (fun a _ => a = 69) μ μ' := by
  have hn := w.n6
  have hp := w.p3
  have hl := nOw_le w ht
  obtain ⟨h1, h2, h3, h4, h5, h6, h7⟩ := ht
  obtain ⟨n1, c1, c2, c3⟩ := m_takeNow h w
  have hm1 : MM k q f o g n1 := hm.fr (fun j _ _ => c3.1 _ _ (by omega))
  have hr1 : MR A n1 := h.tg c3 (fun a j e => Or.inl (Or.inr (Or.inl (by omega))))
  obtain ⟨m0, m1, m2, m3, m4⟩ := id hm1
  have of_ := w.owl h3
  have r68 : ∀ (x y z : MI) (j : Nat), True := fun _ _ _ _ => trivial
  unfold M_changeOwners
  rw [c1]
  simp only [Option.bind_some]
  have fin : ∀ (m : MI) (v : Nat → Nat), ag (fun a _ => a = 69) μ m → OW A v m → (∀ x, x < A.n → v x = nOw A k q f o g x) → ∃ μ', some m = some μ' ∧ OW A (nOw A k q f o g) μ' ∧ ag (fun a _ => a = 69) μ μ' := fun m v a1 a2 a3 => ⟨m, rfl, a2.cg a3, a1⟩
  have k0 : ∀ j, (∀ x, (si n1 69 j x).1 62 26 = n1.1 62 26) := fun j x => by rw [si_ne (by omega)]
  rcases (by omega : k = 0 ∨ k = 1 ∨ k = 2 ∨ k = 3 ∨ k = 4 ∨ k = 5 ∨ k = 6 ∨ k = 7) with rfl | rfl | rfl | rfl | rfl | rfl | rfl | rfl
  · rw [m0]
    show ∃ μ', (((if n1.1 62 26 = 2 then _ else some n1) : Option MI).bind _) = _ ∧ _
    rw [m0]
    show ∃ μ', (((if n1.1 62 26 = 3 then _ else some n1) : Option MI).bind _) = _ ∧ _
    rw [m0]
    show ∃ μ', ((((if n1.1 62 26 = 6 then some true else some (decide (n1.1 62 26 = 7))) : Option Bool).bind _).bind _) = _ ∧ _
    rw [m0]
    exact fin n1 _ c3 c2 (fun x _ => rfl)
  · have e1 : stA 6 n1 69 (n1.1 62 23) (n1.1 62 22 + 1) = some (si n1 69 f (nI (q + 1))) := by rw [m2, m1, li_1, nI_add, stA_n (by omega) (by omega)]
    rw [m0, e1]
    show ∃ μ', (((if (si n1 69 f (nI (q + 1))).1 62 26 = 2 then _ else some (si n1 69 f (nI (q + 1)))) : Option MI).bind _) = _ ∧ _
    rw [k0, m0]
    show ∃ μ', (((if (si n1 69 f (nI (q + 1))).1 62 26 = 3 then _ else some (si n1 69 f (nI (q + 1)))) : Option MI).bind _) = _ ∧ _
    rw [k0, m0]
    show ∃ μ', ((((if (si n1 69 f (nI (q + 1))).1 62 26 = 6 then some true else some (decide ((si n1 69 f (nI (q + 1))).1 62 26 = 7))) : Option Bool).bind _).bind _) = _ ∧ _
    rw [k0, m0]
    exact fin _ _ (ag_st c3 rfl) (c2.sx w h3 (o := q + 1) (by omega)) (fun x _ => rfl)
  · have h8 := h6 (by omega)
    have oo := w.owl h8
    have e1 : ldA 6 n1 68 (n1.1 62 24) = some (nI (A.ow o)) := by rw [m3, ldA_n (by omega) (by omega), hr1.how h8]
    have e2 : stA 6 n1 69 (n1.1 62 23) (nI (A.ow o)) = some (si n1 69 f (nI (A.ow o))) := by rw [m2, stA_n (by omega) (by omega)]
    have e3 : ldA 6 (si n1 69 f (nI (A.ow o))) 68 ((si n1 69 f (nI (A.ow o))).1 62 23) = some (nI (A.ow f)) := by rw [si_ne (by omega), m2, ldA_n (by omega) (by omega), si_ne (by omega), hr1.how h3]
    have e4 : stA 6 (si n1 69 f (nI (A.ow o))) 69 ((si n1 69 f (nI (A.ow o))).1 62 24) (nI (A.ow f)) = some (si (si n1 69 f (nI (A.ow o))) 69 o (nI (A.ow f))) := by rw [si_ne (by omega), m3, stA_n (by omega) (by omega)]
    rw [m0]
    show ∃ μ', (((if n1.1 62 26 = 2 then _ else some n1) : Option MI).bind _) = _ ∧ _
    rw [m0, if_pos (show nI 2 = 2 from rfl), e1]
    simp only [Option.bind_some]
    rw [e2]
    simp only [Option.bind_some]
    rw [e3]
    simp only [Option.bind_some]
    rw [e4]
    have k1 : (si (si n1 69 f (nI (A.ow o))) 69 o (nI (A.ow f))).1 62 26 = nI 2 := by rw [si_ne (by omega), si_ne (by omega)]; exact m0
    simp only [Option.bind_some]
    rw [k1]
    simp only [show (nI 2 = (3 : Int32)) = False from by decide, show (nI 2 = (6 : Int32)) = False from by decide, show decide (nI 2 = (7 : Int32)) = false from by decide, if_false, Option.bind_some, Bool.false_eq_true, k1]
    exact fin _ _ (ag_st (ag_st c3 rfl) rfl) ((c2.sx w h3 oo).sx w h8 of_) (fun x _ => rfl)
  · have h8 := h6 (by omega)
    have h9 := h7 rfl
    have oo := w.owl h8
    have og_ := w.owl h9
    have e1 : ldA 6 n1 68 (n1.1 62 23) = some (nI (A.ow f)) := by rw [m2, ldA_n (by omega) (by omega), hr1.how h3]
    have e2 : stA 6 n1 69 (n1.1 62 24) (nI (A.ow f)) = some (si n1 69 o (nI (A.ow f))) := by rw [m3, stA_n (by omega) (by omega)]
    have e3 : ldA 6 (si n1 69 o (nI (A.ow f))) 68 ((si n1 69 o (nI (A.ow f))).1 62 24) = some (nI (A.ow o)) := by rw [si_ne (by omega), m3, ldA_n (by omega) (by omega), si_ne (by omega), hr1.how h8]
    have e4 : stA 6 (si n1 69 o (nI (A.ow f))) 69 ((si n1 69 o (nI (A.ow f))).1 62 25) (nI (A.ow o)) = some (si (si n1 69 o (nI (A.ow f))) 69 g (nI (A.ow o))) := by rw [si_ne (by omega), m4, stA_n (by omega) (by omega)]
    have e5 : ldA 6 (si (si n1 69 o (nI (A.ow f))) 69 g (nI (A.ow o))) 68 ((si (si n1 69 o (nI (A.ow f))) 69 g (nI (A.ow o))).1 62 25) = some (nI (A.ow g)) := by rw [si_ne (by omega), si_ne (by omega), m4, ldA_n (by omega) (by omega), si_ne (by omega), si_ne (by omega), hr1.how h9]
    have e6 : stA 6 (si (si n1 69 o (nI (A.ow f))) 69 g (nI (A.ow o))) 69 ((si (si n1 69 o (nI (A.ow f))) 69 g (nI (A.ow o))).1 62 23) (nI (A.ow g)) = some (si (si (si n1 69 o (nI (A.ow f))) 69 g (nI (A.ow o))) 69 f (nI (A.ow g))) := by rw [si_ne (by omega), si_ne (by omega), m2, stA_n (by omega) (by omega)]
    rw [m0]
    show ∃ μ', (((if n1.1 62 26 = 2 then _ else some n1) : Option MI).bind _) = _ ∧ _
    rw [m0, if_neg (show ¬ nI 3 = 2 from by decide)]
    simp only [Option.bind_some]
    rw [m0, if_pos (show nI 3 = 3 from rfl), e1]
    simp only [Option.bind_some]
    rw [e2]
    simp only [Option.bind_some]
    rw [e3]
    simp only [Option.bind_some]
    rw [e4]
    simp only [Option.bind_some]
    rw [e5]
    simp only [Option.bind_some]
    rw [e6]
    have k1 : (si (si (si n1 69 o (nI (A.ow f))) 69 g (nI (A.ow o))) 69 f (nI (A.ow g))).1 62 26 = nI 3 := by rw [si_ne (by omega), si_ne (by omega), si_ne (by omega)]; exact m0
    simp only [Option.bind_some]
    rw [k1]
    simp only [show (nI 3 = (6 : Int32)) = False from by decide, show decide (nI 3 = (7 : Int32)) = false from by decide, if_false, Option.bind_some, Bool.false_eq_true]
    exact fin _ _ (ag_st (ag_st (ag_st c3 rfl) rfl) rfl) (((c2.sx w h8 of_).sx w h9 oo).sx w h3 og_) (fun x _ => rfl)
  · have e1 : stA 6 n1 69 (n1.1 62 23) (n1.1 62 22 + 1) = some (si n1 69 f (nI (q + 1))) := by rw [m2, m1, li_1, nI_add, stA_n (by omega) (by omega)]
    rw [m0, e1]
    show ∃ μ', (((if (si n1 69 f (nI (q + 1))).1 62 26 = 2 then _ else some (si n1 69 f (nI (q + 1)))) : Option MI).bind _) = _ ∧ _
    rw [k0, m0]
    show ∃ μ', (((if (si n1 69 f (nI (q + 1))).1 62 26 = 3 then _ else some (si n1 69 f (nI (q + 1)))) : Option MI).bind _) = _ ∧ _
    rw [k0, m0]
    show ∃ μ', ((((if (si n1 69 f (nI (q + 1))).1 62 26 = 6 then some true else some (decide ((si n1 69 f (nI (q + 1))).1 62 26 = 7))) : Option Bool).bind _).bind _) = _ ∧ _
    rw [k0, m0]
    exact fin _ _ (ag_st c3 rfl) (c2.sx w h3 (o := q + 1) (by omega)) (fun x _ => rfl)
  · rw [m0]
    show ∃ μ', (((if n1.1 62 26 = 2 then _ else some n1) : Option MI).bind _) = _ ∧ _
    rw [m0]
    show ∃ μ', (((if n1.1 62 26 = 3 then _ else some n1) : Option MI).bind _) = _ ∧ _
    rw [m0]
    show ∃ μ', ((((if n1.1 62 26 = 6 then some true else some (decide (n1.1 62 26 = 7))) : Option Bool).bind _).bind _) = _ ∧ _
    rw [m0]
    exact fin n1 _ c3 c2 (fun x _ => rfl)
  · have e1 : stA 6 n1 69 (n1.1 62 23) 0 = some (si n1 69 f (nI 0)) := by rw [m2, li_0, stA_n (by omega) (by omega)]
    rw [m0]
    show ∃ μ', (((if n1.1 62 26 = 2 then _ else some n1) : Option MI).bind _) = _ ∧ _
    rw [m0]
    show ∃ μ', (((if n1.1 62 26 = 3 then _ else some n1) : Option MI).bind _) = _ ∧ _
    rw [m0]
    show ∃ μ', ((((if n1.1 62 26 = 6 then some true else some (decide (n1.1 62 26 = 7))) : Option Bool).bind _).bind _) = _ ∧ _
    rw [m0, e1]
    exact fin _ _ (ag_st c3 rfl) (c2.sx w h3 (o := 0) (Nat.zero_le _)) (fun x _ => rfl)
  · have e1 : stA 6 n1 69 (n1.1 62 23) 0 = some (si n1 69 f (nI 0)) := by rw [m2, li_0, stA_n (by omega) (by omega)]
    rw [m0]
    show ∃ μ', (((if n1.1 62 26 = 2 then _ else some n1) : Option MI).bind _) = _ ∧ _
    rw [m0]
    show ∃ μ', (((if n1.1 62 26 = 3 then _ else some n1) : Option MI).bind _) = _ ∧ _
    rw [m0]
    show ∃ μ', ((((if n1.1 62 26 = 6 then some true else some (decide (n1.1 62 26 = 7))) : Option Bool).bind _).bind _) = _ ∧ _
    rw [m0, e1]
    exact fin _ _ (ag_st c3 rfl) (c2.sx w h3 (o := 0) (Nat.zero_le _)) (fun x _ => rfl)
/-- the purse behind a payment: of those who are there by c, of others as it lies -/
def PRS (A : LV) (c : Nat → Int) (μ0 μ : MI) : Prop := ∀ x, x < 3 → μ.1 75 x = if x < A.p then iI (c x) else μ0.1 65 x
theorem m_add {A : LV} {μ0 μ : MI} (w : WF A) {c : Nat → Int} {q : Nat} {s : Int} (h : PRS A c μ0 μ) (hq : q < A.p) (hb : -100000 ≤ c q + s ∧ c q + s ≤ 100000) : M_add (nI q) (iI s) μ = some (si μ 75 q (iI (cap (c q + s)))) ∧ PRS A (ea c q s) μ0 (si μ 75 q (iI (cap (c q + s)))) := by
  have hp := w.p3
  have hv : μ.1 75 q = iI (c q) := by rw [h q (by omega), if_pos hq]
  refine ⟨?_, fun x hx => ?_⟩
  · unfold M_add
    rw [ldA_n (by omega) (by omega), hv]
    simp only [Option.bind_some, iI_add]
    have e : ((999 : Int32) < iI (c q + s)) = (999 < c q + s) := by
      rw [Int32.lt_iff_toInt_lt, iI_toInt (by omega) (by omega)]; rfl
    have ec : (if (999 : Int32) < iI (c q + s) then some 999 else some (iI (c q + s))) = some (iI (cap (c q + s))) := by
      unfold cap
      simp only [e]
      by_cases g : 999 < c q + s
      · rw [if_pos g, if_pos g]; rfl
      · rw [if_neg g, if_neg g]
    rw [ec]
    simp only [Option.bind_some, stA_n (show q < 3 by omega) (show 3 ≤ 5000 by omega)]
  · rw [si_at]
    unfold ea
    by_cases e : x = q
    · subst e
      rw [if_pos rfl, if_pos hq, if_pos rfl]
    · rw [if_neg e, h x hx]
      by_cases g : x < A.p
      · rw [if_pos g, if_pos g, if_neg e]
      · rw [if_neg g, if_neg g]
theorem PRS.rf {A : LV} {μ : MI} (h : MR A μ) (w : WF A) : ∃ m, lp M_pay_s1 FUEL (0, μ) = some m ∧ PRS A A.co μ m ∧ ag (fun a _ => a = 75) μ m := by
  obtain ⟨m, e, h1, h2⟩ := lp_m (step := M_pay_s1) (fun k m => ag (fun a _ => a = 75) μ m ∧ ∀ x, x < k → m.1 75 x = μ.1 65 x) 3 (by omega) (μ := μ) ⟨ag_rf _ _, fun x hx => absurd hx (Nat.not_lt_zero _)⟩ (fun k m hk ⟨q1, q2⟩ => by
    have e5 : m.1 65 k = μ.1 65 k := q1.1 _ _ (by omega)
    refine ⟨si m 75 k (μ.1 65 k), ?_, ag_st q1 rfl, fun x hx => ?_⟩
    · simp only [M_pay_s1, li_3, if_pos (nI_lt hk (show 3 < 2 ^ 31 by omega)), ldA_n hk (show 3 ≤ 5000 by omega), e5, Option.bind_some, stA_n hk (show 3 ≤ 5000 by omega), li_1, nI_add]
    · rw [si_at]
      by_cases e : x = k
      · rw [if_pos e, e]
      · rw [if_neg e, q2 x (by omega)]) (fun m _ => by
    simp only [M_pay_s1, li_3, nI_ltI (show 3 < 2 ^ 31 by omega) (show 3 < 2 ^ 31 by omega), Nat.lt_irrefl, if_false])
  refine ⟨m, e, fun x hx => ?_, h1⟩
  rw [h2 x hx]
  by_cases g : x < A.p
  · rw [if_pos g, h.hco g]
  · rw [if_neg g]
