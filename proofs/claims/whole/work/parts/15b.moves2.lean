theorem CR.so_cg {t : Nat} {A : LV} {μ : MI} {g h : Nat → Nat} (c : CR t (A.so g) μ) (e : ∀ f, f < A.n → g f = h f) : CR t (A.so h) μ := by
  refine ⟨c.1, c.2.1, c.2.2.1, c.2.2.2.1, c.2.2.2.2.1, fun f hf => ?_, c.2.2.2.2.2.2⟩
  show _ = nI (cl (h f))
  rw [← e f hf]
  exact c.how hf
theorem c_doOn {A : LV} {μ : MI} {t k q f o g : Nat} (h : CR 8 A μ) (w : WF A) (co : CO A) (hm : MC t k q f o g μ) (ht : 38 ≤ t) (hx : thr_ A k q f o g) (hd : told A k q f o g = true) : ∃ μ', Move_doOn t 8 μ = some μ' ∧ CR 8 (nx A k q f o g) μ' ∧ ag pC μ μ' := by
  have hn := w.n6
  have hp := w.p3
  obtain ⟨h1, h2, h3, h4, h5, h6, h7⟩ := id hx
  obtain ⟨m0, m1, m2, m3, m4⟩ := id hm
  have ac := w.acl h3
  have cq := co q h2
  have pr : Move_priceIn t 8 μ = some (nI (10 * A.ac f + g)) := by
    unfold Move_priceIn
    rw [m2, c_acresOf h w h3]
    simp only [Option.bind_some, m4, li_10, pk_mul, nI_add]
  unfold told at hd
  unfold Move_doOn
  rw [m0]
  rcases (by omega : k = 0 ∨ k = 1 ∨ k = 2 ∨ k = 3 ∨ k = 4 ∨ k = 5 ∨ k = 6 ∨ k = 7) with rfl | rfl | rfl | rfl | rfl | rfl | rfl | rfl
  · exact ⟨μ, rfl, h, ag_rf _ _⟩
  · have ne : A.ow f ≠ q + 1 := of_decide_eq_true hd
    obtain ⟨μ', e1, e2, e3⟩ := c_buy h w co hm ht h3 h2 ne (d := 10 * A.ac f + g) (by omega)
    refine ⟨μ', ?_, e2, e3⟩
    show ((Move_priceIn t 8 μ).bind fun r12 => (Move_buyFor t 8 r12 μ).bind fun m15 => some m15).bind _ = _
    rw [pr]
    simp only [Option.bind_some, e1]
  · have ne : f ≠ o := of_decide_eq_true hd
    have h8 := h6 (by omega)
    have of_ := w.owl h3
    have oo := w.owl h8
    show ∃ μ', ((Move_goRound t 8 (μ.1 t 3) μ).bind fun m20 => some m20).bind _ = _ ∧ _
    unfold Move_goRound
    rw [m2, m3, c_ownerOf h w h3, c_ownerOf h w h8]
    simp only [Option.bind_some]
    have i1 := c_give' h w (o := A.ow o) (f := f) oo h3
    have r1 := h.gv (f := f) (o := A.ow o)
    have w1 := w.gv (f := f) (o := A.ow o) oo
    have n1 := hm.sx (b := 8 + 2) (j := f) (x := nI (cl (A.ow o))) (by omega)
    have i2 := c_give' r1 w1 (o := A.ow o) (f := o) oo h8
    have r2 := r1.gv (f := o) (o := A.ow o)
    have w2 := w1.gv (f := o) (o := A.ow o) oo
    have n2 := n1.sx (b := 8 + 2) (j := o) (x := nI (cl (A.ow o))) (by omega)
    have i3 := c_give' r2 w2 (o := A.ow f) (f := o) of_ h8
    have r3 := r2.gv (f := o) (o := A.ow f)
    simp only [i1, Option.bind_some, i2, n2.2.2.2.1, i3]
    refine ⟨_, rfl, ?_, ag_st (ag_st (ag_si (Or.inl (by omega))) (Or.inl (by omega))) (Or.inl (by omega))⟩
    refine CR.so_cg (A := A) (g := fun x => if x = o then A.ow f else if x = o then A.ow o else if x = f then A.ow o else A.ow x) r3 fun x _ => ?_
    show _ = (if x = o then A.ow f else if x = f then A.ow o else A.ow x)
    by_cases g1 : x = o
    · rw [if_pos g1, if_pos g1]
    · rw [if_neg g1, if_neg g1, if_neg g1]
  · have ne : f ≠ o ∧ f ≠ g ∧ o ≠ g := of_decide_eq_true hd
    have h8 := h6 (by omega)
    have h9 := h7 rfl
    have of_ := w.owl h3
    have oo := w.owl h8
    have og_ := w.owl h9
    show ∃ μ', ((Move_goRound t 8 (μ.1 t 4) μ).bind fun m25 => some m25).bind _ = _ ∧ _
    unfold Move_goRound
    rw [m2, m3, m4, c_ownerOf h w h3, c_ownerOf h w h8, c_ownerOf h w h9]
    simp only [Option.bind_some]
    have i1 := c_give' h w (o := A.ow g) (f := f) og_ h3
    have r1 := h.gv (f := f) (o := A.ow g)
    have w1 := w.gv (f := f) (o := A.ow g) og_
    have n1 := hm.sx (b := 8 + 2) (j := f) (x := nI (cl (A.ow g))) (by omega)
    have i2 := c_give' r1 w1 (o := A.ow o) (f := g) oo h9
    have r2 := r1.gv (f := g) (o := A.ow o)
    have w2 := w1.gv (f := g) (o := A.ow o) oo
    have n2 := n1.sx (b := 8 + 2) (j := g) (x := nI (cl (A.ow o))) (by omega)
    have i3 := c_give' r2 w2 (o := A.ow f) (f := o) of_ h8
    have r3 := r2.gv (f := o) (o := A.ow f)
    simp only [i1, Option.bind_some, i2, n2.2.2.2.1, i3]
    refine ⟨_, rfl, ?_, ag_st (ag_st (ag_si (Or.inl (by omega))) (Or.inl (by omega))) (Or.inl (by omega))⟩
    refine CR.so_cg (A := A) (g := fun x => if x = o then A.ow f else if x = g then A.ow o else if x = f then A.ow g else A.ow x) r3 fun x _ => ?_
    show _ = (if x = f then A.ow g else if x = g then A.ow o else if x = o then A.ow f else A.ow x)
    by_cases g1 : x = o
    · rw [if_pos g1, if_neg (by omega), if_neg (by omega), if_pos g1]
    · by_cases g2 : x = g
      · rw [if_neg g1, if_pos g2, if_neg (by omega), if_pos g2]
      · rw [if_neg g1, if_neg g2]
        by_cases g3 : x = f
        · rw [if_pos g3, if_pos g3]
        · rw [if_neg g3, if_neg g3, if_neg g2, if_neg g1]
  · have ne : A.ow f ≠ q + 1 := of_decide_eq_true hd
    obtain ⟨μ', e1, e2, e3⟩ := c_buy h w co hm ht h3 h2 ne (d := 2 * (10 * A.ac f + g)) (by omega)
    refine ⟨μ', ?_, e2, e3⟩
    show ((Move_priceIn t 8 μ).bind fun r30 => (Move_buyFor t 8 (2 * r30) μ).bind fun m33 => some m33).bind _ = _
    rw [pr]
    simp only [Option.bind_some, li_2, pk_mul, e1]
  · have e5 : A.to f o = 1 := of_decide_eq_true hd
    have h8 := h6 (by omega)
    have fo : f ≠ o := fun z => by rw [z, w.di] at e5; cases e5
    show ∃ μ', ((Land_setTouch 8 (μ.1 t 2) (μ.1 t 3) 2 μ).bind fun m38 => (Land_earn 8 (m38.1 t 1) ((-5) * (m38.1 t 4)) m38).bind fun m41 => some m41).bind _ = _ ∧ _
    rw [m2, m3, show (2 : Int32) = nI 2 from rfl, c_setTouch h w h3 h8 fo]
    have r1 := h.stt (v := 2) (show f < 6 by omega) (show o < 6 by omega)
    have w1 := w.stt (h := 2) h3 h8 fo (by omega)
    have n1 := (hm.sx (b := 8 + 3) (j := f * 6 + o) (x := nI 2) (by omega)).sx (b := 8 + 3) (j := o * 6 + f) (x := nI 2) (by omega)
    have g1 : ag pC μ (si (si μ (8 + 3) (f * 6 + o) (nI 2)) (8 + 3) (o * 6 + f) (nI 2)) := ag_st (ag_si (Or.inl (by omega))) (Or.inl (by omega))
    generalize si (si μ (8 + 3) (f * 6 + o) (nI 2)) (8 + 3) (o * 6 + f) (nI 2) = u at r1 n1 g1 ⊢
    simp only [Option.bind_some]
    have sv : (-5 : Int32) * nI g = iI (-(5 * g : Nat)) := by
      rw [← iI_nat, show (-5 : Int32) = iI (-5) from by decide, iI_mul]; first | rfl | (congr 1; omega)
    have er := c_earn r1 w1 (o := q + 1) (s := -(5 * g : Nat)) h2 (fun _ => by
      rw [Nat.add_sub_cancel]
      show -100000 ≤ A.co q + _ ∧ A.co q + _ ≤ 100000
      omega)
    rw [cl_s, if_neg (show ¬ q + 1 = 0 by omega), Nat.add_sub_cancel] at er
    rw [n1.2.1, n1.2.2.2.2, sv, er]
    exact ⟨_, rfl, r1.ea (q := q) (s := -(5 * g : Nat)), ag_st g1 (Or.inl (by omega))⟩
  · show ∃ μ', ((Land_give 8 9 (μ.1 t 2) μ).bind fun (b46, m47) => some m47).bind _ = _ ∧ _
    have i1 := c_give' h w (o := 0) (f := f) (Nat.zero_le _) h3
    rw [cl_0] at i1
    have r1 := h.gv (f := f) (o := 0)
    rw [cl_0] at r1
    rw [m2, show (9 : Int32) = nI 9 from rfl, i1]
    exact ⟨_, rfl, r1, ag_si (Or.inl (by omega))⟩
  · show ∃ μ', ((Land_give 8 9 (μ.1 t 2) μ).bind fun (b52, m53) => (Move_priceIn t 8 m53).bind fun r56 => (Land_earn 8 (m53.1 t 1) (r56 / 2) m53).bind fun m59 => some m59).bind _ = _ ∧ _
    have i1 := c_give' h w (o := 0) (f := f) (Nat.zero_le _) h3
    rw [cl_0] at i1
    have r1 := h.gv (f := f) (o := 0)
    have w1 := w.gv (f := f) (o := 0) (Nat.zero_le _)
    rw [cl_0] at r1
    rw [m2, show (9 : Int32) = nI 9 from rfl, i1]
    have n1 := hm.sx (b := 8 + 2) (j := f) (x := nI 9) (by omega)
    have g1 : ag pC μ (si μ (8 + 2) f (nI 9)) := ag_si (Or.inl (by omega))
    generalize si μ (8 + 2) f (nI 9) = u at r1 n1 g1 ⊢
    have pr2 : Move_priceIn t 8 u = some (nI (10 * A.ac f + g)) := by
      unfold Move_priceIn
      rw [n1.2.2.1, c_acresOf r1 w1 (f := f) h3]
      simp only [Option.bind_some, n1.2.2.2.2, li_10, pk_mul, nI_add]
      rfl
    have d2 : nI (10 * A.ac f + g) / 2 = iI (((10 * A.ac f + g) / 2 : Nat)) := by
      rw [iI_nat]; exact pk_div (d := 2) (by omega) (by omega) (by omega)
    have er := c_earn r1 w1 (o := q + 1) (s := (((10 * A.ac f + g) / 2 : Nat))) h2 (fun _ => by
      rw [Nat.add_sub_cancel]
      show -100000 ≤ A.co q + _ ∧ A.co q + _ ≤ 100000
      omega)
    rw [cl_s, if_neg (show ¬ q + 1 = 0 by omega), Nat.add_sub_cancel] at er
    simp only [Option.bind_some, pr2, n1.2.1, d2, er]
    exact ⟨_, rfl, r1.ea (q := q) (s := (((10 * A.ac f + g) / 2 : Nat))), ag_st g1 (Or.inl (by omega))⟩
def canDo (A : LV) (k q f o g : Nat) : Bool := told A k q f o g && (lw (nTo A k f o) (nOw A k q f o g) && al (fun x => decide (0 ≤ nCo A k q f g x)) A.p)
def wanted (A : LV) (k q f o g : Nat) : Bool := told A k q f o g && (decide (6 ≤ k) || al (fun x => decide (wow A A.ow x ≤ wow A (nOw A k q f o g) x)) A.p)
theorem wow_le {A : LV} (w : WF A) (g : Nat → Nat) {q : Nat} (hq : q < A.p) : wow A g q ≤ 600 := by
  have hn := w.n6
  unfold wow
  have := sm_le (f := fun f => if g f = q + 1 then A.wo q f else 0) (c := 99) (n := A.n) (fun k hk => by
    show (if g k = q + 1 then A.wo q k else 0) ≤ 99
    split
    · exact w.wol hq hk
    · omega)
  have h2 : A.n * 99 ≤ 6 * 99 := Nat.mul_le_mul_right _ hn
  omega
theorem nCo_b {A : LV} (w : WF A) (co : CO A) {k q f g : Nat} (hf : f < A.n) (hg : g < 10) : ∀ x, x < A.p → -5000 ≤ nCo A k q f g x ∧ nCo A k q f g x ≤ 999 := by
  have d := due_le w (k := k) hf hg
  have ac := (w.acl hf).2
  have one : ∀ (c : Nat → Int) (s : Int) (y : Nat) (lo : Int), -4500 ≤ lo → (∀ x, x < A.p → lo ≤ c x ∧ c x ≤ 999) → -250 ≤ s → ∀ x, x < A.p → lo - 250 ≤ ea c y s x ∧ ea c y s x ≤ 999 := by
    intro c s y lo hl hc hs x hx
    have := hc x hx
    unfold ea
    by_cases e : x = y
    · subst e
      rw [if_pos rfl]
      refine ⟨?_, cap_le _⟩
      unfold cap; split <;> omega
    · rw [if_neg e]; omega
  have c0 : ∀ x, x < A.p → (0 : Int) ≤ A.co x ∧ A.co x ≤ 999 := fun x hx => co x hx
  intro x hx
  unfold nCo
  by_cases e1 : k = 1 ∨ k = 4
  · rw [if_pos e1]
    have h1 := one A.co (-(due A k f g : Nat)) q 0 (by omega) c0 (by omega)
    by_cases e0 : A.ow f = 0
    · rw [if_pos e0]; have := h1 x hx; omega
    · rw [if_neg e0]
      have := one (ea A.co q (-(due A k f g : Nat))) (due A k f g : Nat) (A.ow f - 1) (-250) (by omega) (fun x hx => by have := h1 x hx; omega) (by omega) x hx
      omega
  rw [if_neg e1]
  by_cases e5 : k = 5
  · rw [if_pos e5]; have := one A.co (-(5 * g : Nat)) q 0 (by omega) c0 (by omega) x hx; omega
  rw [if_neg e5]
  by_cases e7 : k = 7
  · rw [if_pos e7]; have := one A.co (((10 * A.ac f + g) / 2 : Nat)) q 0 (by omega) c0 (by omega) x hx; omega
  rw [if_neg e7]
  have := c0 x hx; omega
theorem c_mayBeDone {A : LV} {μ : MI} {t k q f o g : Nat} (h : CR 1 A μ) (w : WF A) (co : CO A) (hm : MC t k q f o g μ) (ht : 38 ≤ t) (hx : thr_ A k q f o g) : ∃ μ', N_mayBeDone t μ = some (canDo A k q f o g, μ') ∧ ag pC μ μ' ∧ (canDo A k q f o g = true → CR 8 (nx A k q f o g) μ') := by
  have hp := w.p3
  obtain ⟨m0, c1, c2, c3⟩ := c_copyFrom (t := 8) (o := 1) h w (by omega)
  have g0 : ag pC μ m0 := ag_mo c3 (fun a j q => Or.inl q)
  have hm0 : MC t k q f o g m0 := hm.fr (funext fun j => g0.1 _ _ (by unfold pC; omega))
  unfold N_mayBeDone canDo
  rw [c1]
  simp only [Option.bind_some, c_isAsTold c2 w hm0 hx]
  cases hd : told A k q f o g
  · exact ⟨m0, rfl, g0, fun e => by cases e⟩
  obtain ⟨m1, e1, e2, e3⟩ := c_doOn c2 w co hm0 ht hx hd
  have w1 := nx_wf w hx hd
  have il := c_isLawful e2 w1
  have el : lw (nx A k q f o g) (nx A k q f o g).ow = lw (nTo A k f o) (nOw A k q f o g) := rfl
  rw [el] at il
  have no : Land_nobodyOwes 8 m1 = some (al (fun x => decide (0 ≤ nCo A k q f g x)) A.p) := by
    have nb := nCo_b w co (k := k) (q := q) (f := f) (g := g) hx.2.2.1 hx.2.2.2.1
    have np : (nx A k q f o g).p = A.p := by
      unfold nx nTo
      split <;> rfl
    unfold Land_nobodyOwes
    have pr : m1.1 8 1 = nI A.p := by rw [e2.hp, np]
    have cv : ∀ x, x < A.p → Land_coinsOf 8 (nI x) m1 = some (iI (nCo A k q f g x)) := fun x hx => c_coinsOf e2 w1 (by rw [np]; exact hx)
    have lt : ∀ x, x < A.p → (iI (nCo A k q f g x) < 0) = (nCo A k q f g x < 0) := fun x hx => by
      have := nb x hx
      rw [Int32.lt_iff_toInt_lt, iI_toInt (by omega) (by omega)]; rfl
    have key := lp_find (step := Land_nobodyOwes_s1 m1 8) (fun x => nI x) (fun x => !decide (0 ≤ nCo A k q f g x)) (.inl ()) (fun _ => .inr false) A.p (by omega) (fun x hx hq => by
      simp only [Land_nobodyOwes_s1, pr, if_pos (nI_lt hx (show A.p < 2 ^ 31 by omega)), cv x hx, Option.bind_some, lt x hx]
      have : ¬ nCo A k q f g x < 0 := by simp at hq; omega
      rw [if_neg this, li_1, nI_add]) (fun x hx hq => by
      simp only [Land_nobodyOwes_s1, pr, if_pos (nI_lt hx (show A.p < 2 ^ 31 by omega)), cv x hx, Option.bind_some, lt x hx]
      have : nCo A k q f g x < 0 := by simp at hq; omega
      rw [if_pos this]) (by
      simp only [Land_nobodyOwes_s1, pr, if_neg (nI_nlt (Nat.le_refl A.p) (show A.p < 2 ^ 31 by omega))])
    rw [show (nI 0 : Int32) = 0 from rfl] at key
    rcases key with ⟨x, hx, hq, _, e⟩ | ⟨hall, e⟩
    · rw [e, al_ff hx (by revert hq; cases decide (0 ≤ nCo A k q f g x) <;> simp)]; rfl
    · rw [e, al_iff.mpr (fun x hx => by have := hall x hx; revert this; cases decide (0 ≤ nCo A k q f g x) <;> simp)]; rfl
  refine ⟨m1, ?_, ag_tr g0 e3, fun _ => e2⟩
  simp only [if_true, Option.bind_some, e1, il, no, Bool.true_and]
  cases lw (nTo A k f o) (nOw A k q f o g) <;> simp
theorem c_isWanted {A : LV} {μ : MI} {t k q f o g : Nat} (h : CR 1 A μ) (w : WF A) (co : CO A) (hm : MC t k q f o g μ) (ht : 38 ≤ t) (hx : thr_ A k q f o g) : ∃ μ', N_isWanted t μ = some (wanted A k q f o g, μ') ∧ ag pC μ μ' := by
  have hp := w.p3
  unfold N_isWanted wanted
  rw [c_isAsTold h w hm hx]
  cases hd : told A k q f o g
  · exact ⟨μ, rfl, ag_rf _ _⟩
  have k8 := hx.1
  have c6 : (if μ.1 t 0 = 6 then some true else some (decide (μ.1 t 0 = 7))) = some (decide (6 ≤ k)) := by
    rw [hm.1]
    rcases (by omega : k = 0 ∨ k = 1 ∨ k = 2 ∨ k = 3 ∨ k = 4 ∨ k = 5 ∨ k = 6 ∨ k = 7) with rfl | rfl | rfl | rfl | rfl | rfl | rfl | rfl <;> rfl
  simp only [Option.bind_some, if_true]
  rw [c6]
  by_cases e6 : 6 ≤ k
  · exact ⟨μ, by simp [e6], ag_rf _ _⟩
  rw [decide_eq_false e6]
  obtain ⟨m0, c1, c2, c3⟩ := c_copyFrom (t := 8) (o := 1) h w (by omega)
  have g0 : ag pC μ m0 := ag_mo c3 (fun a j q => Or.inl q)
  have hm0 : MC t k q f o g m0 := hm.fr (funext fun j => g0.1 _ _ (by unfold pC; omega))
  obtain ⟨m1, e1, e2, e3⟩ := c_doOn c2 w co hm0 ht hx hd
  have g1 := ag_tr g0 e3
  have w1 := nx_wf w hx hd
  have h1 : CR 1 A m1 := h.tg g1 (fun a j z1 z2 z3 => by unfold pC at z3; omega)
  have np : (nx A k q f o g).p = A.p := by
    unfold nx nTo
    split <;> rfl
  have wv : ∀ x, x < A.p → Land_worthOwned 8 (nI x) m1 = some (nI (wow A (nOw A k q f o g) x)) := fun x hx => by
    rw [c_worthOwned e2 w1 (by rw [np]; exact hx)]
    congr 2
    unfold nx nTo
    split <;> rfl
  have pr : m1.1 1 1 = nI A.p := h1.hp
  have lt : ∀ x, x < A.p → ((nI (wow A (nOw A k q f o g) x) < nI (wow A A.ow x)) ↔ ¬ wow A A.ow x ≤ wow A (nOw A k q f o g) x) := fun x hx => by
    have b1 := wow_le w (nOw A k q f o g) hx
    have b2 := wow_le w A.ow hx
    rw [nI_ltI (by omega) (by omega)]; omega
  have key := lp_find (step := N_isWanted_s1 m1) (fun x => nI x) (fun x => !decide (wow A A.ow x ≤ wow A (nOw A k q f o g) x)) (.inl ()) (fun _ => .inr (false, m1)) A.p (by omega) (fun x hx hq => by
    simp only [N_isWanted_s1, pr, if_pos (nI_lt hx (show A.p < 2 ^ 31 by omega)), wv x hx, c_worthOwned h1 w hx, Option.bind_some, lt x hx]
    have : wow A A.ow x ≤ wow A (nOw A k q f o g) x := by simpa using hq
    rw [if_neg (fun z => z this), li_1, nI_add]) (fun x hx hq => by
    simp only [N_isWanted_s1, pr, if_pos (nI_lt hx (show A.p < 2 ^ 31 by omega)), wv x hx, c_worthOwned h1 w hx, Option.bind_some, lt x hx]
    have : ¬ wow A A.ow x ≤ wow A (nOw A k q f o g) x := by simpa using hq
    rw [if_pos this]) (by
    simp only [N_isWanted_s1, pr, if_neg (nI_nlt (Nat.le_refl A.p) (show A.p < 2 ^ 31 by omega))])
  rw [show (nI 0 : Int32) = 0 from rfl] at key
  refine ⟨m1, ?_, g1⟩
  simp only [Option.bind_some, Bool.false_eq_true, if_false, c1, e1, Bool.false_or, Bool.true_and]
  rcases key with ⟨x, hx, hq, _, e⟩ | ⟨hall, e⟩
  · rw [e, al_ff hx (by revert hq; cases decide (wow A A.ow x ≤ wow A (nOw A k q f o g) x) <;> simp)]; rfl
  · rw [e, al_iff.mpr (fun x hx => by have := hall x hx; revert this; cases decide (wow A A.ow x ≤ wow A (nOw A k q f o g) x) <;> simp)]; rfl
