/-! ===== moves: the class's side ===== -/
def cap (z : Int) : Int := if 999 < z then 999 else z
def told (A : LV) (k q f o g : Nat) : Bool := if k = 1 ∨ k = 4 then decide (A.ow f ≠ q + 1) else if k = 2 then decide (f ≠ o) else if k = 3 then decide (f ≠ o ∧ f ≠ g ∧ o ≠ g) else if k = 5 then decide (A.to f o = 1) else if k = 7 then decide (A.ow f = q + 1) else true
def nOw (A : LV) (k q f o g : Nat) : Nat → Nat := if k = 1 ∨ k = 4 then (fun x => if x = f then q + 1 else A.ow x) else if k = 2 then (fun x => if x = o then A.ow f else if x = f then A.ow o else A.ow x) else if k = 3 then (fun x => if x = f then A.ow g else if x = g then A.ow o else if x = o then A.ow f else A.ow x) else if k = 6 ∨ k = 7 then (fun x => if x = f then 0 else A.ow x) else A.ow
def due (A : LV) (k f g : Nat) : Nat := if k = 4 then 2 * (10 * A.ac f + g) else 10 * A.ac f + g
def ea (c : Nat → Int) (q : Nat) (s : Int) : Nat → Int := fun x => if x = q then cap (c q + s) else c x
def nCo (A : LV) (k q f g : Nat) : Nat → Int := if k = 1 ∨ k = 4 then (if A.ow f = 0 then ea A.co q (-(due A k f g : Nat)) else ea (ea A.co q (-(due A k f g : Nat))) (A.ow f - 1) (due A k f g : Nat)) else if k = 5 then ea A.co q (-(5 * g : Nat)) else if k = 7 then ea A.co q (((10 * A.ac f + g) / 2 : Nat)) else A.co
def nTo (A : LV) (k f o : Nat) : LV := if k = 5 then A.stt f o 2 else A
def LV.cs (A : LV) (c : Nat → Int) : LV := (A.n, A.p, A.C, A.K, A.ac, A.ow, A.to, c, A.ki, A.wo)
def nx (A : LV) (k q f o g : Nat) : LV := ((nTo A k f o).so (nOw A k q f o g)).cs (nCo A k q f g)
/-- who and what is there -/
def thr_ (A : LV) (k q f o g : Nat) : Prop := k < 8 ∧ q < A.p ∧ f < A.n ∧ g < 10 ∧ o < 10 ∧ (k = 2 ∨ k = 3 ∨ k = 5 → o < A.n) ∧ (k = 3 → g < A.n)
theorem WF.cs {A : LV} (w : WF A) (c : Nat → Int) : WF (A.cs c) := w
theorem nOw_le {A : LV} (w : WF A) {k q f o g : Nat} (h : thr_ A k q f o g) : ∀ x, x < A.n → nOw A k q f o g x ≤ A.p := by
  obtain ⟨h1, h2, h3, h4, h5, h6, h7⟩ := h
  intro x hx
  unfold nOw
  have wx := w.owl hx
  have wf := w.owl h3
  by_cases e1 : k = 1 ∨ k = 4
  · rw [if_pos e1]
    show (if x = f then q + 1 else A.ow x) ≤ _
    split <;> omega
  rw [if_neg e1]
  by_cases e2 : k = 2
  · have wo := w.owl (h6 (by omega))
    rw [if_pos e2]
    show (if x = o then A.ow f else if x = f then A.ow o else A.ow x) ≤ _
    split
    · omega
    · split <;> omega
  rw [if_neg e2]
  by_cases e3 : k = 3
  · have wo := w.owl (h6 (by omega))
    have wg := w.owl (h7 e3)
    rw [if_pos e3]
    show (if x = f then A.ow g else if x = g then A.ow o else if x = o then A.ow f else A.ow x) ≤ _
    split
    · omega
    · split
      · omega
      · split <;> omega
  rw [if_neg e3]
  split
  · show (if x = f then 0 else A.ow x) ≤ _
    split <;> omega
  · exact wx
theorem nx_wf {A : LV} (w : WF A) {k q f o g : Nat} (h : thr_ A k q f o g) (ht : told A k q f o g = true) : WF (nx A k q f o g) := by
  have hw := nOw_le w h
  obtain ⟨h1, h2, h3, h4, h5, h6, h7⟩ := h
  unfold nx nTo
  refine WF.cs ?_ _
  by_cases e : k = 5
  · rw [if_pos e]
    have h8 := h6 (by omega)
    have fo : f ≠ o := fun q => by
      unfold told at ht
      rw [if_neg (by omega), if_neg (by omega), if_neg (by omega), if_pos e, decide_eq_true_eq, q, w.di] at ht
      cases ht
    exact (w.stt h3 h8 fo (by omega)).so hw
  · rw [if_neg e]
    exact w.so hw
theorem CR.ea {t A μ} (h : CR t A μ) {q : Nat} {s : Int} : CR t (A.cs (ea A.co q s)) (si μ (t + 4) q (iI (cap (A.co q + s)))) := by
  have z : ∀ c, c ≠ t + 4 → (si μ (t + 4) q (iI (cap (A.co q + s)))).1 c = μ.1 c := fun c hc => by rw [si_ne hc]
  unfold CR
  rw [z t (by omega), z (t + 1) (by omega), z (t + 2) (by omega), z (t + 3) (by omega), z (t + 5) (by omega), z (t + 6) (by omega)]
  refine ⟨h.1, h.2.1, h.2.2.1, h.2.2.2.1, h.2.2.2.2.1, h.2.2.2.2.2.1, h.2.2.2.2.2.2.1, fun x hx => ?_, h.2.2.2.2.2.2.2.2⟩
  rw [si_at]
  show _ = iI (if x = q then cap (A.co q + s) else A.co x)
  by_cases e : x = q
  · simp only [if_pos e]
  · simp only [if_neg e]; exact h.hco hx
theorem mn_cap {z : Int} (h1 : -100000 ≤ z) (h2 : z ≤ 100000) : mn 999 (iI z) = iI (cap z) := by
  unfold mn cap
  have e : (iI z < (999 : Int32)) = (z < 999) := by rw [show (999 : Int32) = nI 999 from rfl, iI_ltn (by omega) (by omega) (by omega)]; rfl
  simp only [e]
  by_cases g : z < 999
  · rw [if_pos g, if_neg (by omega)]
  · rw [if_neg g]
    by_cases g2 : 999 < z
    · rw [if_pos g2]; rfl
    · rw [if_neg g2]
      have : z = 999 := by omega
      rw [this]; rfl
theorem c_earn {t A μ} (h : CR t A μ) (w : WF A) {o : Nat} (ho : o ≤ A.p) {s : Int} (hb : o ≠ 0 → -100000 ≤ A.co (o - 1) + s ∧ A.co (o - 1) + s ≤ 100000) : Land_earn t (nI (cl o)) (iI s) μ = some (if o = 0 then μ else si μ (t + 4) (o - 1) (iI (cap (A.co (o - 1) + s)))) := by
  have hp := w.p3
  unfold Land_earn
  rw [c_isPerson h w, inR_n (by have := cl_lt ho hp; omega), decide_eq_decide.mpr (iff_of_eq (cl_ltp ho hp))]
  rcases o with _ | q
  · rw [decide_eq_false (show ¬ ((0 : Nat) ≠ 0) from fun e => e rfl), if_pos rfl]; rfl
  · obtain ⟨b1, b2⟩ := hb (by omega)
    rw [decide_eq_true (show q + 1 ≠ 0 by omega), if_neg (show ¬ q + 1 = 0 by omega), cl_s, Nat.add_sub_cancel]
    rw [Nat.add_sub_cancel] at b1 b2
    simp only [Option.bind_some, Option.bind_none, if_true, if_false, ite_true, ite_false, Bool.false_eq_true, Bool.true_eq_false, Bool.not_true, Bool.not_false, decide_true, decide_false, decide_eq_true_eq, Sum.elim_inl, Sum.elim_inr, ne_eq, not_true, not_false_iff, reduceIte, reduceCtorEq, Bool.cond_true, Bool.cond_false, ldA_n (show q < 3 by omega) (show 3 ≤ 5000 by omega), h.hco (show q < A.p by omega), iI_add, mn_cap b1 b2, stA_n (show q < 3 by omega) (show 3 ≤ 5000 by omega)]
def MC (t k q f o g : Nat) (μ : MI) : Prop := μ.1 t 0 = nI k ∧ μ.1 t 1 = nI q ∧ μ.1 t 2 = nI f ∧ μ.1 t 3 = nI o ∧ μ.1 t 4 = nI g
theorem MC.fr {t k q f o g μ μ'} (h : MC t k q f o g μ) (e : μ'.1 t = μ.1 t) : MC t k q f o g μ' := by unfold MC; rw [e]; exact h
theorem MC.sx {t k q f o g μ b j x} (h : MC t k q f o g μ) (e : b ≠ t) : MC t k q f o g (si μ b j x) := h.fr (si_ne (Ne.symm e))
theorem c_isAsTold {A : LV} {μ : MI} {t l k q f o g : Nat} (h : CR l A μ) (w : WF A) (hm : MC t k q f o g μ) (ht : thr_ A k q f o g) : Move_isAsTold t l μ = some (told A k q f o g) := by
  have hn := w.n6
  have hp := w.p3
  obtain ⟨m0, m1, m2, m3, m4⟩ := hm
  obtain ⟨h1, h2, h3, h4, h5, h6, h7⟩ := ht
  have o1 := w.owl h3
  have o2 := cl_lt o1 hp
  have e1 : (nI (cl (A.ow f)) = nI q) = (A.ow f = q + 1) := by
    have := cl_inj (o := A.ow f) (q := q + 1) (p := A.p) o1 (by omega) hp
    rw [cl_s] at this
    rw [nI_eq (by omega) (by omega), this]
  have e2 : (nI f = nI o) = (f = o) := by rw [nI_eq (by omega) (by omega)]
  have e3 : (nI f = nI g) = (f = g) := by rw [nI_eq (by omega) (by omega)]
  have e4 : (nI o = nI g) = (o = g) := by rw [nI_eq (by omega) (by omega)]
  unfold Move_isAsTold told
  rw [m0, m1, m2, m3, m4]
  rcases (by omega : k = 0 ∨ k = 1 ∨ k = 2 ∨ k = 3 ∨ k = 4 ∨ k = 5 ∨ k = 6 ∨ k = 7) with rfl | rfl | rfl | rfl | rfl | rfl | rfl | rfl
  · rfl
  · show ((Land_ownerOf l (nI f) μ).bind fun r13 => some (decide (r13 ≠ nI q))).bind _ = _
    rw [c_ownerOf h w h3]
    simp only [Option.bind_some, ne_eq, e1]
    rfl
  · show (some (decide (nI f ≠ nI o))).bind _ = _
    simp only [Option.bind_some, ne_eq, e2]
    rfl
  · show ((if nI f ≠ nI o then (if nI f ≠ nI g then some (decide (nI o ≠ nI g)) else some false) else some false) : Option Bool).bind _ = _
    simp only [ne_eq, e2, e3, e4]
    by_cases g1 : f = o
    · simp [g1]
    · by_cases g2 : f = g
      · simp [g1, g2]
      · simp [g1, g2]
  · show ((Land_ownerOf l (nI f) μ).bind fun r44 => some (decide (r44 ≠ nI q))).bind _ = _
    rw [c_ownerOf h w h3]
    simp only [Option.bind_some, ne_eq, e1]
    rfl
  · have h8 := h6 (by omega)
    have t3 := w.t3 f o
    show ((Land_touchOf l (nI f) (nI o) μ).bind fun r55 => some (decide (r55 = 1))).bind _ = _
    rw [c_touchOf h w h3 h8]
    have e5 : (nI (A.to f o) = 1) = (A.to f o = 1) := by rw [li_1, nI_eq (by omega) (by omega)]
    simp only [Option.bind_some, e5]
    rfl
  · rfl
  · show ((Land_ownerOf l (nI f) μ).bind fun r68 => some (decide (r68 = nI q))).bind _ = _
    rw [c_ownerOf h w h3]
    simp only [Option.bind_some, e1]
    rfl
theorem co_b {A : LV} (c : CO A) {q : Nat} (hq : q < A.p) : 0 ≤ A.co q ∧ A.co q ≤ 999 := c q hq
theorem due_le {A : LV} (w : WF A) {k f g : Nat} (hf : f < A.n) (hg : g < 10) : due A k f g ≤ 198 := by
  have := (w.acl hf).2
  unfold due
  split <;> omega
theorem cap_le (z : Int) : cap z ≤ 999 := by unfold cap; split <;> omega
theorem cap_lo {z : Int} (h : -5000 ≤ z) : -5000 ≤ cap z := by unfold cap; split <;> omega
theorem c_buy {A : LV} {μ : MI} {t k q f o g : Nat} (h : CR 8 A μ) (w : WF A) (co : CO A) (hm : MC t k q f o g μ) (ht : 38 ≤ t) (hf : f < A.n) (hq : q < A.p) (hne : A.ow f ≠ q + 1) {d : Nat} (hd : d ≤ 198) : ∃ μ', Move_buyFor t 8 (nI d) μ = some μ' ∧ CR 8 ((A.so (fun x => if x = f then q + 1 else A.ow x)).cs (if A.ow f = 0 then ea A.co q (-(d : Nat)) else ea (ea A.co q (-(d : Nat))) (A.ow f - 1) (d : Nat))) μ' ∧ ag pC μ μ' := by
  have hn := w.n6
  have hp := w.p3
  have o1 := w.owl hf
  have cq := co q hq
  have neg : -nI d = iI (-(d : Nat)) := by rw [← iI_nat, iI_neg]
  obtain ⟨m0, m1, m2, m3, m4⟩ := id hm
  unfold Move_buyFor
  rw [m1, neg]
  have er := c_earn h w (o := q + 1) (s := -(d : Nat)) hq (fun _ => by rw [Nat.add_sub_cancel]; omega)
  rw [cl_s, if_neg (show ¬ q + 1 = 0 by omega), Nat.add_sub_cancel] at er
  rw [er]
  have h1 := h.ea (q := q) (s := -(d : Nat))
  have g1 : ag pC μ (si μ (8 + 4) q (iI (cap (A.co q + -(d : Nat))))) := ag_si (Or.inl (by omega))
  have hm1 := hm.sx (b := 8 + 4) (j := q) (x := iI (cap (A.co q + -(d : Nat)))) (by omega)
  have w1 : WF (A.cs (ea A.co q (-(d : Nat)))) := w
  generalize si μ (8 + 4) q (iI (cap (A.co q + -(d : Nat)))) = n1 at h1 g1 hm1 ⊢
  simp only [Option.bind_some]
  rw [hm1.2.2.1, c_ownerOf h1 w1 hf]
  simp only [Option.bind_some]
  have dn : nI d = iI (d : Nat) := (iI_nat d).symm
  have er2 := c_earn h1 w1 (o := A.ow f) (s := (d : Nat)) o1 (fun z => by
    show -100000 ≤ ea A.co q (-(d : Nat)) (A.ow f - 1) + _ ∧ ea A.co q (-(d : Nat)) (A.ow f - 1) + _ ≤ _
    have := co (A.ow f - 1) (by omega)
    unfold ea
    rw [if_neg (by omega)]
    omega)
  rw [dn]
  have ow1 : (A.cs (ea A.co q (-(d : Nat)))).ow f = A.ow f := rfl
  rw [ow1, er2]
  simp only [Option.bind_some]
  have fin : ∀ (n2 : MI) (B : LV), CR 8 B n2 → WF B → B.n = A.n → B.p = A.p → MC t k q f o g n2 → ag pC μ n2 → ∃ μ', ((Land_give 8 (n2.1 t 1) (n2.1 t 2) n2).bind fun (b13, m14) => some m14) = some μ' ∧ CR 8 (B.gv f (q + 1)) μ' ∧ ag pC μ μ' := by
    intro n2 B hB wB e1 e2 hm2 g2
    have gi := c_give' hB wB (o := q + 1) (f := f) (by omega) (by omega)
    rw [cl_s] at gi
    rw [hm2.2.1, hm2.2.2.1, gi]
    have r := hB.gv (f := f) (o := q + 1)
    rw [cl_s] at r
    exact ⟨_, rfl, r, ag_st g2 (Or.inl (by omega))⟩
  by_cases e0 : A.ow f = 0
  · rw [if_pos e0, if_pos e0]
    exact fin n1 _ h1 w1 rfl rfl hm1 g1
  · rw [if_neg e0, if_neg e0]
    exact fin _ _ (h1.ea (q := A.ow f - 1) (s := (d : Nat))) w rfl rfl (hm1.sx (by omega)) (ag_st g1 (Or.inl (by omega)))
