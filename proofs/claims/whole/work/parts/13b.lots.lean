/-! ===== lots ===== -/
theorem OW.cg {A : LV} {g h : Nat → Nat} {μ : MI} (o : OW A g μ) (e : ∀ f, f < A.n → g f = h f) : OW A h μ := ⟨fun f hf => by rw [← e f hf]; exact o.1 f hf, fun f hf => by rw [← e f hf]; exact o.2 f hf⟩
theorem lw_cg {A : LV} (w : WF A) {g h : Nat → Nat} (e : ∀ f, f < A.n → g f = h f) : lw A g = lw A h := by
  rw [Bool.eq_iff_iff, lw_iff w, lw_iff w]
  constructor
  · intro q a b ha hb
    have := q a b ha hb
    unfold bad at this ⊢
    rw [← e a ha, ← e b hb]; exact this
  · intro q a b ha hb
    have := q a b ha hb
    unfold bad at this ⊢
    rw [e a ha, e b hb]; exact this
def drw (s : Int32) (n : Nat) : Nat := s.toBitVec.toNat % 2 ^ 31 / 65536 % n
theorem draw_v (s : Int32) {n : Nat} (h0 : 0 < n) (hn : n < 2 ^ 31) : rmO ((s &&& 2147483647) / 65536) (nI n) = some (nI (drw s n)) := by
  have e1 : s &&& 2147483647 = nI (s.toBitVec.toNat % 2 ^ 31) := pk_and s 31 (by decide)
  have h1 : s.toBitVec.toNat % 2 ^ 31 < 2 ^ 31 := Nat.mod_lt _ (by decide)
  have e2 : nI (s.toBitVec.toNat % 2 ^ 31) / 65536 = nI (s.toBitVec.toNat % 2 ^ 31 / 65536) := pk_div (d := 65536) h1 (by decide) (by decide)
  have h2 : s.toBitVec.toNat % 2 ^ 31 / 65536 ≤ s.toBitVec.toNat % 2 ^ 31 := Nat.div_le_self _ _
  unfold rmO drw
  rw [e1, e2, if_neg (by rw [li_0, nI_eq hn (by omega)]; omega), rm_n (by omega) h0 hn]
theorem drawBelow_v (s : Int32) {n : Nat} (h0 : 0 < n) (hn : n < 2 ^ 31) : N_drawBelow s (nI n) = some (nI (drw s n)) := by
  unfold N_drawBelow
  rw [if_pos (show (0 : Int32) < nI n from by rw [li_0]; exact nI_lt h0 hn), draw_v s h0 hn]
  rfl
def nxs (s : Int32) : Int32 := s * 1103515245 + 12345
theorem nxs_v (s : Int32) : s * 1103515245 + 12345 = nxs s := rfl
def lt1 (A : LV) (k : Nat) (s : Int32 × (Nat → Nat)) : Int32 × (Nat → Nat) := if A.ow k = 0 then (nxs s.1, if drw (nxs s.1) (A.p + 1) < A.p ∧ lw A (fun f => if f = k then drw (nxs s.1) (A.p + 1) + 1 else s.2 f) = true then (fun f => if f = k then drw (nxs s.1) (A.p + 1) + 1 else s.2 f) else s.2) else s
def lts (A : LV) (z : Int32) : Nat → Int32 × (Nat → Nat)
  | 0 => (z, A.ow)
  | k + 1 => lt1 A k (lts A z k)
theorem lts_le {A : LV} (w : WF A) (z : Int32) : ∀ k f, f < A.n → (lts A z k).2 f ≤ A.p
  | 0, f, hf => w.owl hf
  | k + 1, f, hf => by
    have ih := lts_le w z k
    unfold lts lt1
    split
    · split
      · rename_i q
        show (if f = k then _ else _) ≤ A.p
        split
        · omega
        · exact ih f hf
      · exact ih f hf
    · exact ih f hf
theorem lts_ah {A : LV} (z : Int32) : ∀ k f, k ≤ f → (lts A z k).2 f = A.ow f
  | 0, f, _ => rfl
  | k + 1, f, hf => by
    have ih := lts_ah (A := A) z k
    unfold lts lt1
    split
    · split
      · show (if f = k then _ else _) = A.ow f
        rw [if_neg (by omega)]; exact ih f (by omega)
      · exact ih f (by omega)
    · exact ih f (by omega)
def sLots (A : LV) (z x : Int32) : Int32 := if inR x 2 = true then (if x = 0 then nI (sow A (lts A z A.n).2) else nI (sm (fun f => A.wt ((lts A z A.n).2 f) f) A.n)) else -1
theorem all_tb {n f : Nat} (h : f < n) : (2 ^ n - 1).testBit f = true := by rw [Nat.testBit_two_pow_sub_one]; exact decide_eq_true h
theorem two_le {n : Nat} (h : n ≤ 6) : 2 ^ n ≤ 64 := by
  have : 2 ^ n ≤ 2 ^ 6 := Nat.pow_le_pow_right (by decide) h
  omega
theorem N_lots_st0 {A : LV} {m : MI} (w : WF A) (z : Int32) {k : Nat} (hk : k < A.n) (e0 : ¬ A.ow k = 0) (r3 : CR 8 (A.so (lts A z k).2) m) : N_lots_s1 ((lts A z k).1, nI k, m) = some (.inl ((lts A z k).1, nI (k + 1), m)) := by
  have hn := w.n6
  have hp := w.p3
  have wk : WF (A.so (lts A z k).2) := w.so (lts_le w z k)
  have ow := c_ownerOf r3 wk (f := k) hk
  rw [show (A.so (lts A z k).2).ow k = A.ow k from lts_ah z k k (Nat.le_refl _)] at ow
  have o1 := w.owl hk
  have e9 : ¬ nI (cl (A.ow k)) = 9 := by
    have := cl_lt o1 hp
    rw [li_9, nI_eq (by omega) (by omega), cl_9 o1 hp]; exact e0
  have nr : m.1 8 0 = nI A.n := r3.hn
  simp only [N_lots_s1, nr, if_pos (nI_lt hk (show A.n < 2 ^ 31 by omega)), ow, Option.bind_some, if_neg e9, li_1, nI_add]
theorem N_dim {A : LV} {m : MI} {g : Nat → Nat} (w : WF A) {k r : Nat} (hk : k < A.n) (ez : g k = 0) (wk : WF (A.so g)) (r3 : CR 8 (A.so g) m) (hr : r < A.p + 1) : ∃ m', N_drawInMind (nI k) (nI r) m = some m' ∧ CR 8 (A.so (if r < A.p ∧ lw A (fun f => if f = k then r + 1 else g f) = true then (fun f => if f = k then r + 1 else g f) else g)) m' ∧ ag pC m m' := by
  have hn := w.n6
  have hp := w.p3
  have pr : m.1 8 1 = nI A.p := r3.hp
  unfold N_drawInMind
  rw [pr]
  by_cases er : r < A.p
  · rw [if_neg (nI_ge er (show A.p < 2 ^ 31 by omega))]
    have gi := c_give' r3 wk (o := r + 1) (f := k) er hk
    rw [cl_s] at gi
    have r5 := r3.gv (f := k) (o := r + 1)
    have w5 := wk.gv (f := k) (o := r + 1) er
    rw [cl_s] at r5
    have l5 := c_isLawful r5 w5
    rw [show lw ((A.so g).gv k (r + 1)) ((A.so g).gv k (r + 1)).ow = lw A (fun f => if f = k then r + 1 else g f) from rfl] at l5
    simp only [gi, Option.bind_some, l5]
    cases hl : lw A (fun f => if f = k then r + 1 else g f)
    · have gi2 := c_give' r5 w5 (o := 0) (f := k) (Nat.zero_le _) hk
      rw [cl_0] at gi2
      rw [show (9 : Int32) = nI 9 from rfl]
      simp only [Bool.false_eq_true, if_false, gi2, Option.bind_some, and_false]
      refine ⟨_, rfl, ?_, ag_st (ag_si (Or.inl (by omega))) (Or.inl (by omega))⟩
      have r6 := r5.gv (f := k) (o := 0)
      rw [cl_0] at r6
      have ef : (fun f => if f = k then 0 else if f = k then r + 1 else g f) = g := by
        funext f
        by_cases e : f = k
        · rw [if_pos e, e, ez]
        · rw [if_neg e, if_neg e]
      have r7 : CR 8 (A.so (fun f => if f = k then 0 else if f = k then r + 1 else g f)) _ := r6
      rw [ef] at r7
      exact r7
    · simp only [if_true, Option.bind_some]
      refine ⟨_, rfl, ?_, ag_si (Or.inl (by omega))⟩
      simp only [er, and_self, if_true]
      exact r5
  · rw [if_pos (nI_le (show A.p ≤ r by omega) (show r < 2 ^ 31 by omega))]
    refine ⟨m, rfl, ?_, ag_rf _ _⟩
    simp only [er, false_and, if_false]
    exact r3
theorem N_lots_st2 {A : LV} {m m' : MI} (w : WF A) {sd s' : Int32} {k : Nat} (hs : sd * 1103515245 + 12345 = s') (hk : k < A.n) (ow : Land_ownerOf 8 (nI k) m = some (nI 9)) (pr : m.1 8 1 = nI A.p) (nr : m.1 8 0 = nI A.n) (d1 : N_drawInMind (nI k) (nI (drw s' (A.p + 1))) m = some m') : N_lots_s1 (sd, nI k, m) = some (.inl (s', nI (k + 1), m')) := by
  have hn := w.n6
  have hp := w.p3
  have q := drawBelow_v s' (show 0 < A.p + 1 by omega) (show A.p + 1 < 2 ^ 31 by omega)
  simp only [N_lots_s1, hs, nr, if_pos (nI_lt hk (show A.n < 2 ^ 31 by omega)), ow, Option.bind_some, show (nI 9 = (9 : Int32)) = True from by decide, if_true, pr, li_1, nI_add, q, d1]
theorem drw_lt (s : Int32) {n : Nat} (h : 0 < n) : drw s n < n := by unfold drw; exact Nat.mod_lt _ h
theorem N_lots_st1 {A : LV} {m : MI} (w : WF A) (z : Int32) {k : Nat} (hk : k < A.n) (e0 : A.ow k = 0) (r3 : CR 8 (A.so (lts A z k).2) m) : ∃ m', N_lots_s1 ((lts A z k).1, nI k, m) = some (.inl ((lts A z (k + 1)).1, nI (k + 1), m')) ∧ CR 8 (A.so (lts A z (k + 1)).2) m' ∧ ag pC m m' := by
  have hn := w.n6
  have hp := w.p3
  have wk : WF (A.so (lts A z k).2) := w.so (lts_le w z k)
  have ow := c_ownerOf r3 wk (f := k) hk
  rw [show (A.so (lts A z k).2).ow k = A.ow k from lts_ah z k k (Nat.le_refl _), e0, cl_0] at ow
  have pr : m.1 8 1 = nI A.p := r3.hp
  have nr : m.1 8 0 = nI A.n := r3.hn
  have el : lts A z (k + 1) = lt1 A k (lts A z k) := rfl
  have ez : (lts A z k).2 k = 0 := by rw [lts_ah z k k (Nat.le_refl _), e0]
  rw [el]
  generalize lts A z k = S at *
  obtain ⟨sd, g⟩ := S
  simp only at ez wk r3 ⊢
  obtain ⟨s', hs⟩ : ∃ s', s' = nxs sd := ⟨_, rfl⟩
  obtain ⟨m', d1, d2, d3⟩ := N_dim w hk ez wk r3 (drw_lt s' (show 0 < A.p + 1 by omega))
  have e1 : (lt1 A k (sd, g)).1 = s' := by unfold lt1; rw [if_pos e0, hs]
  have e2 : (lt1 A k (sd, g)).2 = (if drw s' (A.p + 1) < A.p ∧ lw A (fun f => if f = k then drw s' (A.p + 1) + 1 else g f) = true then (fun f => if f = k then drw s' (A.p + 1) + 1 else g f) else g) := by unfold lt1; rw [if_pos e0, hs]
  rw [e1, e2]
  exact ⟨m', N_lots_st2 w (hs.symm ▸ nxs_v sd) hk ow pr nr d1, d2, d3⟩
theorem N_lots_v {A : LV} {μ : MI} (h : CR 1 A μ) (w : WF A) (z x : Int32) : ∃ m, N_lots z x μ = some (sLots A z x, m) ∧ ag pC μ m := by
  have hn := w.n6
  have hp := w.p3
  unfold N_lots sLots
  have r1 := rng_c (x := x) (c := 1) (by omega)
  rw [show (nI 0 : Int32) = 0 from rfl, show (nI 1 : Int32) = 1 from rfl] at r1
  rw [r1]
  cases hx : inR x 2
  · exact ⟨μ, by simp, ag_rf _ _⟩
  obtain ⟨m0, c1, c2, c3⟩ := c_copyFrom (t := 8) (o := 1) h w (by omega)
  have g0 : ag pC μ m0 := ag_mo c3 (fun a j q => Or.inl q)
  simp only [Option.bind_some, Bool.not_true, Bool.false_eq_true, if_false, c1]
  obtain ⟨o, q1, q2, q3, q4⟩ := lp_inv (step := N_lots_s1) (s := (z, 0, m0)) (fun k s => s.1 = (lts A z k).1 ∧ s.2.1 = nI k ∧ CR 8 (A.so (lts A z k).2) s.2.2 ∧ ag pC μ s.2.2) (fun o => o.1 = (lts A z A.n).1 ∧ CR 8 (A.so (lts A z A.n).2) o.2 ∧ ag pC μ o.2) A.n (by omega) ⟨rfl, rfl, c2, g0⟩ (by
      rintro k ⟨s, i, m⟩ hk ⟨r1, r2, r3, r4⟩
      simp only at r1 r2 r3 r4; subst r2; subst r1
      refine Or.inl ?_
      by_cases e0 : A.ow k = 0
      · obtain ⟨m', f1, f2, f3⟩ := N_lots_st1 w z hk e0 r3
        exact ⟨_, f1, rfl, rfl, f2, ag_tr r4 f3⟩
      · have el : lts A z (k + 1) = lts A z k := by
          show lt1 A k (lts A z k) = lts A z k
          unfold lt1; rw [if_neg e0]
        refine ⟨_, N_lots_st0 w z hk e0 r3, ?_, rfl, ?_, r4⟩
        · rw [el]
        · rw [el]; exact r3) (by
      rintro ⟨s, i, m⟩ ⟨r1, r2, r3, r4⟩
      simp only at r1 r2 r3 r4; subst r2; subst r1
      have nr : m.1 8 0 = nI A.n := r3.hn
      refine ⟨((lts A z A.n).1, m), ?_, rfl, r3, r4⟩
      simp only [N_lots_s1, nr, if_neg (nI_nlt (Nat.le_refl A.n) (show A.n < 2 ^ 31 by omega))])
  obtain ⟨s, m⟩ := o
  simp only at q2 q3 q4
  have wn : WF (A.so (lts A z A.n).2) := w.so (lts_le w z A.n)
  have nr : m.1 8 0 = nI A.n := q3.hn
  have t6 := two_le hn
  have tp : 0 < 2 ^ A.n := Nat.two_pow_pos _
  rw [q1]
  simp only [Option.bind_some, nr, li_1, sh1 (show A.n < 29 by omega), pk_sub (show 1 ≤ 2 ^ A.n by omega), c_ownedCount q3 wn, c_worthToOwners q3 wn (show 2 ^ A.n - 1 < 2 ^ 31 by omega)]
  have e1 : sow (A.so (lts A z A.n).2) (A.so (lts A z A.n).2).ow = sow A (lts A z A.n).2 := rfl
  have e2 : wto (A.so (lts A z A.n).2) (A.so (lts A z A.n).2).ow (2 ^ A.n - 1) = sm (fun f => A.wt ((lts A z A.n).2 f) f) A.n := by
    unfold wto
    exact sm_cg fun f hf => by
      rw [all_tb (show f < A.n from hf)]; rfl
  rw [e1, e2]
  refine ⟨m, ?_, q4⟩
  by_cases g : x = 0 <;> simp [g]
theorem M_lots_st2 {A : LV} {m : MI} {g : Nat → Nat} (w : WF A) (hm : MR A m) (r3 : OW A g m) {sd s' : Int32} {k : Nat} (hs : sd * 1103515245 + 12345 = s') (hk : k < A.n) (e0 : A.ow k = 0) (ez : g k = 0) : ∃ m', M_lots_s1 (sd, nI k, m) = some (.inl (s', nI (k + 1), m')) ∧ OW A (if drw s' (A.p + 1) < A.p ∧ lw A (fun f => if f = k then drw s' (A.p + 1) + 1 else g f) = true then (fun f => if f = k then drw s' (A.p + 1) + 1 else g f) else g) m' ∧ ag pM m m' := by
  have hn := w.n6
  have hp := w.p3
  have w1 : m.1 68 k = nI 0 := by rw [hm.how hk, e0]
  have dv := draw_v s' (show 0 < A.p + 1 by omega) (show A.p + 1 < 2 ^ 31 by omega)
  have hd := drw_lt s' (show 0 < A.p + 1 by omega)
  generalize drw s' (A.p + 1) = r at hd dv ⊢
  have ex : (if nI r = nI A.p then some 0 else some (nI (r + 1))) = some (nI (if r = A.p then 0 else r + 1)) := by
    by_cases e : r = A.p
    · rw [if_pos (by rw [e]), if_pos e]; rfl
    · rw [if_neg (by rw [nI_eq (by omega) (by omega)]; exact e), if_neg e]
  have ol : (if r = A.p then 0 else r + 1) ≤ A.p := by split <;> omega
  generalize hx : (if r = A.p then 0 else r + 1) = x at ex ol
  have r5 := r3.sx w hk ol
  have hm5 : MR A (si m 69 k (nI x)) := hm.sx (Or.inl (Or.inr (Or.inl (by omega))))
  have f5 := m_isFine hm5 w r5
  have v5 : (si m 69 k (nI x)).1 69 k = nI x := by rw [si_v, if_pos ⟨rfl, rfl⟩]
  have e6 : (if lw A (fun q => if q = k then x else g q) = true then some (nI x) else some 0) = some (nI (if lw A (fun q => if q = k then x else g q) = true then x else 0)) := by
    cases lw A (fun q => if q = k then x else g q) <;> rfl
  have ol2 : (if lw A (fun q => if q = k then x else g q) = true then x else 0) ≤ A.p := by
    by_cases hb : lw A (fun q => if q = k then x else g q) = true
    · rw [if_pos hb]; exact ol
    · rw [if_neg hb]; omega
  refine ⟨si (si m 69 k (nI x)) 69 k (nI (if lw A (fun q => if q = k then x else g q) = true then x else 0)), ?_, (r5.sx w hk ol2).cg fun f hf => ?_, ag_st (ag_si (Or.inr (Or.inl (by omega)))) (Or.inr (Or.inl (by omega)))⟩
  · simp only [M_lots_s1, hs, hm.hn, hm.hp, if_pos (nI_lt hk (show A.n < 2 ^ 31 by omega)), ldA_n (show k < 6 by omega) (show 6 ≤ 5000 by omega), w1, Option.bind_some, show (nI 0 = (0 : Int32)) = True from by decide, if_true, li_1, nI_add, dv, ex, stA_n (show k < 6 by omega) (show 6 ≤ 5000 by omega), f5, v5, e6]
  · by_cases er : r < A.p
    · have er2 : ¬ r = A.p := by omega
      rw [if_neg er2] at hx
      subst hx
      simp only [er, true_and]
      cases hl : lw A (fun q => if q = k then r + 1 else g q)
      · by_cases e : f = k
        · subst e; simp [ez]
        · simp [e]
      · by_cases e : f = k
        · simp [e]
        · simp [e]
    · have er2 : r = A.p := by omega
      rw [if_pos er2] at hx
      subst hx
      simp only [er, false_and, if_false, ite_self]
      by_cases e : f = k
      · subst e; simp [ez]
      · simp [e]
theorem M_lots_v {A : LV} {μ : MI} (h : MR A μ) (w : WF A) (z x : Int32) : ∃ m, M_lots z x μ = some (sLots A z x, m) ∧ ag pM μ m := by
  have hn := w.n6
  have hp := w.p3
  have g00 : ag pM μ (si μ 62 10 (nI 0)) := ag_62 (by omega)
  have h' : MR A (si μ 62 10 (nI 0)) := h.agM g00
  unfold M_lots sLots
  rw [thr0]
  simp only [Option.bind_some, M_in1]
  cases hx : inR x 2
  · exact ⟨_, by simp, g00⟩
  obtain ⟨m0, c1, c2, c3⟩ := m_takeNow h' w
  have g0 : ag pM μ m0 := ag_tr g00 (ag_69 c3)
  simp only [if_true, Option.bind_some, c1]
  obtain ⟨o, q1, q2, q3, q4⟩ := lp_inv (step := M_lots_s1) (s := (z, 0, m0)) (fun k s => s.1 = (lts A z k).1 ∧ s.2.1 = nI k ∧ OW A (lts A z k).2 s.2.2 ∧ ag pM μ s.2.2) (fun o => o.1 = (lts A z A.n).1 ∧ OW A (lts A z A.n).2 o.2 ∧ ag pM μ o.2) A.n (by omega) ⟨rfl, rfl, c2, g0⟩ (by
      rintro k ⟨s, i, m⟩ hk ⟨r1, r2, r3, r4⟩
      simp only at r1 r2 r3 r4; subst r2; subst r1
      have hm : MR A m := h.agM r4
      have o1 := w.owl hk
      refine Or.inl ?_
      by_cases e0 : A.ow k = 0
      · have el : lts A z (k + 1) = lt1 A k (lts A z k) := rfl
        have ez : (lts A z k).2 k = 0 := by rw [lts_ah z k k (Nat.le_refl _), e0]
        rw [el]
        generalize lts A z k = S at *
        obtain ⟨sd, g⟩ := S
        simp only at ez r3 ⊢
        obtain ⟨s', hs⟩ : ∃ s', s' = nxs sd := ⟨_, rfl⟩
        obtain ⟨m', d1, d2, d3⟩ := M_lots_st2 w hm r3 (hs.symm ▸ nxs_v sd) hk e0 ez
        have e1 : (lt1 A k (sd, g)).1 = s' := by unfold lt1; rw [if_pos e0, hs]
        have e2 : (lt1 A k (sd, g)).2 = (if drw s' (A.p + 1) < A.p ∧ lw A (fun f => if f = k then drw s' (A.p + 1) + 1 else g f) = true then (fun f => if f = k then drw s' (A.p + 1) + 1 else g f) else g) := by unfold lt1; rw [if_pos e0, hs]
        rw [e1, e2]
        exact ⟨_, d1, rfl, rfl, d2, ag_tr r4 d3⟩
      · have w1 : ¬ m.1 68 k = 0 := by rw [hm.how hk, li_0, nI_eq (by omega) (by omega)]; exact e0
        have el : lts A z (k + 1) = lts A z k := by
          show lt1 A k (lts A z k) = lts A z k
          unfold lt1; rw [if_neg e0]
        refine ⟨((lts A z k).1, nI (k + 1), m), ?_, ?_, rfl, ?_, r4⟩
        · simp only [M_lots_s1, hm.hn, if_pos (nI_lt hk (show A.n < 2 ^ 31 by omega)), ldA_n (show k < 6 by omega) (show 6 ≤ 5000 by omega), if_neg w1, Option.bind_some, li_1, nI_add]
        · rw [el]
        · rw [el]; exact r3) (by
      rintro ⟨s, i, m⟩ ⟨r1, r2, r3, r4⟩
      simp only at r1 r2 r3 r4; subst r2; subst r1
      have hm : MR A m := h.agM r4
      refine ⟨((lts A z A.n).1, m), ?_, rfl, r3, r4⟩
      simp only [M_lots_s1, hm.hn, if_neg (nI_nlt (Nat.le_refl A.n) (show A.n < 2 ^ 31 by omega))])
  obtain ⟨s, m⟩ := o
  simp only at q2 q3 q4
  have hm : MR A m := h.agM q4
  have l2 : lp (M_lots_s2 m) FUEL (0, 0) = some (nI (sow A (lts A z A.n).2)) := by
    refine lp_seq (fun k => (nI (sm (fun f => if (lts A z A.n).2 f = 0 then 0 else 1) k), nI k)) A.n (by omega) (fun i hi => ?_) ?_
    · have o1 := q3.2 i hi
      simp only [M_lots_s2, hm.hn, if_pos (nI_lt hi (show A.n < 2 ^ 31 by omega)), ldA_n (show i < 6 by omega) (show 6 ≤ 5000 by omega), q3.1 i hi, Option.bind_some, li_0, li_1, nI_ltI (show 0 < 2 ^ 31 by omega) (show (lts A z A.n).2 i < 2 ^ 31 by omega), nI_add, sm]
      by_cases e : (lts A z A.n).2 i = 0
      · simp only [e, Nat.lt_irrefl, if_false, if_true, Option.bind_some, nI_add]
      · simp only [if_neg e, if_pos (show 0 < (lts A z A.n).2 i by omega), Option.bind_some, nI_add]
    · simp only [M_lots_s2, hm.hn, if_neg (nI_nlt (Nat.le_refl _) (show A.n < 2 ^ 31 by omega))]; rfl
  rw [q1]
  simp only [Option.bind_some, l2, m_worthOfAll hm w q3, wow_all q3.2]
  refine ⟨m, ?_, q4⟩
  by_cases g : x = 0 <;> simp [g]
theorem L_22 {μ : MI} (h : INV μ) (x y : Int32) : ∃ μ', Lc_22 x y μ = some μ' ∧ INV μ' := by
  obtain ⟨A, w, co, k1, k2⟩ := h.1
  obtain ⟨m1, e1, g1⟩ := N_lots_v k1 w x y
  obtain ⟨m, e, g⟩ := M_lots_v (k2.agC g1) w x y
  refine ⟨m, ?_, Lc_same h g1 g⟩
  unfold Lc_22
  simp only [e1, Option.bind_some, e, if_true]
