/-! ===== judge, lots ===== -/
def LV.so (A : LV) (g : Nat → Nat) : LV := (A.n, A.p, A.C, A.K, A.ac, g, A.to, A.co, A.ki, A.wo)
theorem so_self (A : LV) : A.so A.ow = A := rfl
theorem so_gv (A : LV) (g : Nat → Nat) (f o : Nat) : (A.so g).gv f o = A.so (fun k => if k = f then o else g k) := rfl
theorem so_lw (A : LV) (g h : Nat → Nat) : lw (A.so g) h = lw A h := rfl
theorem WF.so {A : LV} (w : WF A) {g : Nat → Nat} (h : ∀ f, f < A.n → g f ≤ A.p) : WF (A.so g) := ⟨w.1, w.2.1, w.2.2.1, h, w.2.2.2.2⟩
theorem i64_9 (x : Int32) : (x.toInt64 = 9) = (x = 9) := by
  apply propext
  rw [← Int64.toInt_inj, ← Int32.toInt_inj, Int32.toInt_toInt64]
  exact Iff.rfl
theorem i64_32 (x : Int32) : x.toInt64.toInt32 = x := by
  apply Int32.toInt_inj.mp
  have h1 := x.toInt_lt
  have h2 := x.le_toInt
  rw [Int64.toInt_toInt32, Int32.toInt_toInt64]
  exact Int.bmod_eq_of_le (by omega) (by omega)
/-- owners behind k changes of a row -/
def og (A : LV) (e : Nat → Int32) : Nat → Nat → Nat
  | 0 => A.ow
  | k + 1 => fun f => if f = (e (2 * k + 1)).toNatClampNeg then oc (e (2 * k)) else og A e k f
def jp (A : LV) (e : Nat → Int32) (k : Nat) : Bool := !(okO (e (2 * k)) A.p && inR (e (2 * k + 1)) A.n && lw A (og A e (k + 1)))
def jr (A : LV) (e : Nat → Int32) (z : Nat) : Int32 := (fnd (jp A e) (z / 2)).elim (if z % 2 = 1 then nI z else -4) (fun k => nI (2 * k))
theorem og_le {A : LV} (w : WF A) {e : Nat → Int32} : ∀ {k : Nat}, (∀ j, j < k → jp A e j = false) → ∀ f, f < A.n → og A e k f ≤ A.p
  | 0, _, f, hf => w.owl hf
  | k + 1, h, f, hf => by
    have h1 := h k (by omega)
    unfold jp at h1
    have h2 : okO (e (2 * k)) A.p = true := by
      revert h1
      cases okO (e (2 * k)) A.p <;> simp
    unfold og
    split
    · exact (okO_t h2 w.p3).1
    · exact og_le w (fun j hj => h j (by omega)) f hf
theorem N_judge_in {d z : Nat} {A : LV} {μ : MI} (hd : d < 8) (h : CR 1 A μ) (w : WF A) (hz : z ≤ 100) (e2 : μ.1 (38 + 3 * d) 2 = nI z) : ∃ m, (((Land_copyFrom 8 1 μ).bind fun m13 => (lp (N_judge_s1 (38 + 3 * d)) FUEL (0, m13)).bind fun o16 => Sum.elim (fun m22 => (if rm32 (m22.1 (38 + 3 * d) 2) 2 = 1 then some (m22.1 (38 + 3 * d) 2) else some (-4) : Option Int32).bind fun x51 => some (x51, m22)) (fun r57 => some r57) o16) : Option (Int32 × MI)) = some (jr A (μ.1 (38 + 3 * d + 2)) z, m) ∧ ag pC μ m := by
  have hn := w.n6
  have hp := w.p3
  obtain ⟨m0, c1, c2, c3⟩ := c_copyFrom (t := 8) (o := 1) h w (by omega)
  have g0 : ag pC μ m0 := ag_mo c3 (fun a j q => Or.inl q)
  rw [c1]
  simp only [Option.bind_some]
  obtain ⟨o, q1, q2⟩ := lp_inv (step := N_judge_s1 (38 + 3 * d)) (s := (0, m0)) (fun k s => s.1 = nI (2 * k) ∧ (∀ j, j < k → jp A (μ.1 (38 + 3 * d + 2)) j = false) ∧ CR 8 (A.so (og A (μ.1 (38 + 3 * d + 2)) k)) s.2 ∧ ag pC μ s.2) (fun o => Sum.elim (fun m => (∀ j, j < z / 2 → jp A (μ.1 (38 + 3 * d + 2)) j = false) ∧ ag pC μ m) (fun r => r.1 = jr A (μ.1 (38 + 3 * d + 2)) z ∧ ag pC μ r.2) o) (z / 2) (by omega) ⟨rfl, fun j hj => absurd hj (Nat.not_lt_zero _), c2, g0⟩ (by
      rintro k ⟨i, m⟩ hk ⟨r1, r2, r3, r4⟩
      simp only at r1 r3 r4; subst r1
      have cell : ∀ a j, 38 ≤ a → m.1 a j = μ.1 a j := fun a j q => r4.1 a j (by unfold pC; omega)
      have wk := w.so (og_le w r2)
      have s2 : m.1 (38 + 3 * d) 2 = nI z := (cell _ _ (by omega)).trans e2
      have a1 : Shelf_at (38 + 3 * d) (nI (2 * k)) m = some (μ.1 (38 + 3 * d + 2) (2 * k)) := by
        rw [c_at s2 hz, inR_n (by omega), decide_eq_true (by omega), if_pos rfl, nI_clamp (by omega), cell _ _ (by omega)]
      have a2 : Shelf_at (38 + 3 * d) (nI (2 * k + 1)) m = some (μ.1 (38 + 3 * d + 2) (2 * k + 1)) := by
        rw [c_at s2 hz, inR_n (by omega), decide_eq_true (by omega), if_pos rfl, nI_clamp (by omega), cell _ _ (by omega)]
      have fail : jp A (μ.1 (38 + 3 * d + 2)) k = true → jr A (μ.1 (38 + 3 * d + 2)) z = nI (2 * k) := fun q => by
        unfold jr
        rw [fnd_some q r2 hk]; rfl
      simp only [N_judge_s1, li_1, li_2, nI_add, s2, if_pos (nI_lt (show 2 * k + 1 < z by omega) (show z < 2 ^ 31 by omega)), a1, a2, Option.bind_some]
      rw [c_give r3 wk]
      by_cases gd : okO (μ.1 (38 + 3 * d + 2) (2 * k)) (A.so (og A (μ.1 (38 + 3 * d + 2)) k)).p = true ∧ inR (μ.1 (38 + 3 * d + 2) (2 * k + 1)) (A.so (og A (μ.1 (38 + 3 * d + 2)) k)).n = true
      · rw [if_pos gd]
        have r5 := r3.gv (f := (μ.1 (38 + 3 * d + 2) (2 * k + 1)).toNatClampNeg) (o := oc (μ.1 (38 + 3 * d + 2) (2 * k)))
        have w5 := wk.gv (f := (μ.1 (38 + 3 * d + 2) (2 * k + 1)).toNatClampNeg) (okO_t gd.1 w.p3).1
        have r6 := c_isLawful r5 w5
        have r7 : lw ((A.so (og A (μ.1 (38 + 3 * d + 2)) k)).gv (μ.1 (38 + 3 * d + 2) (2 * k + 1)).toNatClampNeg (oc (μ.1 (38 + 3 * d + 2) (2 * k)))) ((A.so (og A (μ.1 (38 + 3 * d + 2)) k)).gv (μ.1 (38 + 3 * d + 2) (2 * k + 1)).toNatClampNeg (oc (μ.1 (38 + 3 * d + 2) (2 * k)))).ow = lw A (og A (μ.1 (38 + 3 * d + 2)) (k + 1)) := rfl
        rw [r7] at r6
        have gp : okO (μ.1 (38 + 3 * d + 2) (2 * k)) A.p = true ∧ inR (μ.1 (38 + 3 * d + 2) (2 * k + 1)) A.n = true := gd
        simp only [Option.bind_some, r6, if_true]
        cases hl : lw A (og A (μ.1 (38 + 3 * d + 2)) (k + 1))
        · refine Or.inr ⟨_, rfl, (fail ?_).symm, ag_st r4 (Or.inl (by omega))⟩
          unfold jp; rw [gp.1, gp.2, hl]; rfl
        · refine Or.inl ⟨_, rfl, ?_, fun j hj => ?_, r5, ag_st r4 (Or.inl (by omega))⟩
          · show nI (2 * k + 2) = nI (2 * (k + 1)); rfl
          · by_cases e : j = k
            · subst e; unfold jp; rw [gp.1, gp.2, hl]; rfl
            · exact r2 j (by omega)
      · rw [if_neg gd]
        refine Or.inr ⟨_, rfl, (fail ?_).symm, r4⟩
        have gp : ¬ (okO (μ.1 (38 + 3 * d + 2) (2 * k)) A.p = true ∧ inR (μ.1 (38 + 3 * d + 2) (2 * k + 1)) A.n = true) := gd
        unfold jp
        revert gp
        cases okO (μ.1 (38 + 3 * d + 2) (2 * k)) A.p <;> cases inR (μ.1 (38 + 3 * d + 2) (2 * k + 1)) A.n <;> simp) (by
      rintro ⟨i, m⟩ ⟨r1, r2, r3, r4⟩
      simp only at r1 r3 r4; subst r1
      have s2 : m.1 (38 + 3 * d) 2 = nI z := (r4.1 _ _ (by unfold pC; omega)).trans e2
      refine ⟨.inl m, ?_, r2, r4⟩
      simp only [N_judge_s1, li_1, nI_add, s2, if_neg (nI_nlt (show z ≤ 2 * (z / 2) + 1 by omega) (show 2 * (z / 2) + 1 < 2 ^ 31 by omega))])
  rw [q1]
  simp only [Option.bind_some]
  rcases o with m | ⟨r, m⟩
  · obtain ⟨y1, y2⟩ := q2
    have s2 : m.1 (38 + 3 * d) 2 = nI z := (y2.1 _ _ (by unfold pC; omega)).trans e2
    refine ⟨m, ?_, y2⟩
    unfold jr
    rw [fnd_none y1]
    simp only [Sum.elim_inl, s2, li_1, li_2, rm_n (show z < 2 ^ 31 by omega) (show 0 < 2 by omega) (show 2 < 2 ^ 31 by omega), nI_eq (show z % 2 < 2 ^ 31 by omega) (show 1 < 2 ^ 31 by omega), Option.elim_none]
    by_cases g : z % 2 = 1 <;> simp [g]
  · obtain ⟨y1, y2⟩ := q2
    refine ⟨m, ?_, y2⟩
    show some (r, m) = _
    rw [show r = _ from y1]
theorem M_judge_in {d z : Nat} {A : LV} {e : Nat → Int32} {μ : MI} (hd : d < 8) (h : MR A μ) (w : WF A) (hz : z ≤ 100) (he : ∀ i, i < 100 → μ.2 90 (100 * d + i) = (e i).toInt64) : ∃ m, (((M_takeNow μ).bind fun m14 => (lp (M_judge_s1 (nI z) (nI d)) FUEL (0, m14)).bind fun o17 => Sum.elim (fun m23 => (if rm32 (nI z) 2 = 1 then some (nI z) else some (-4) : Option Int32).bind fun x72 => some (x72, m23)) (fun r78 => some r78) o17) : Option (Int32 × MI)) = some (jr A e z, m) ∧ ag pM μ m := by
  have hn := w.n6
  have hp := w.p3
  obtain ⟨m0, c1, c2, c3⟩ := m_takeNow h w
  have g0 : ag pM μ m0 := ag_69 c3
  rw [c1]
  simp only [Option.bind_some]
  obtain ⟨o, q1, q2⟩ := lp_inv (step := M_judge_s1 (nI z) (nI d)) (s := (0, m0)) (fun k s => s.1 = nI (2 * k) ∧ (∀ j, j < k → jp A e j = false) ∧ OW A (og A e k) s.2 ∧ ag pM μ s.2) (fun o => Sum.elim (fun m => (∀ j, j < z / 2 → jp A e j = false) ∧ ag pM μ m) (fun r => r.1 = jr A e z ∧ ag pM μ r.2) o) (z / 2) (by omega) ⟨rfl, fun j hj => absurd hj (Nat.not_lt_zero _), c2, g0⟩ (by
      rintro k ⟨i, m⟩ hk ⟨r1, r2, r3, r4⟩
      simp only at r1 r3 r4; subst r1
      have hm : MR A m := h.agM r4
      have fail : jp A e k = true → jr A e z = nI (2 * k) := fun q => by
        unfold jr
        rw [fnd_some q r2 hk]; rfl
      have l1 : ldL 800 m 90 (100 * nI d + nI (2 * k)) = some (e (2 * k)).toInt64 := by
        rw [li_100, pk_mul, nI_add, ldL_n (by omega) (by omega), r4.2, he _ (by omega)]
      have l2 : ldL 800 m 90 (100 * nI d + nI (2 * k) + 1) = some (e (2 * k + 1)).toInt64 := by
        rw [li_100, li_1, pk_mul, nI_add, nI_add, ldL_n (by omega) (by omega), r4.2, show 100 * d + 2 * k + 1 = 100 * d + (2 * k + 1) by omega, he _ (by omega)]
      simp only [M_judge_s1]
      rw [l1, l2]
      simp only [Option.bind_some, hm.hn, hm.hp, M_in_n _ (show A.n < 2 ^ 30 by omega), M_in_n _ (show A.p < 2 ^ 30 by omega), i64_9, i64_32, ne_eq]
      rw [if_pos (show nI (2 * k) + 1 < nI z from by rw [li_1, nI_add]; exact nI_lt (by omega) (by omega))]
      have ok : (if inR (e (2 * k)) A.p = true then some false else some (decide (¬ e (2 * k) = 9))) = some (!okO (e (2 * k)) A.p) := by
        unfold okO
        cases inR (e (2 * k)) A.p <;> by_cases g : e (2 * k) = 9 <;> simp [g]
      rw [ok]
      simp only [Option.bind_some]
      by_cases gd : okO (e (2 * k)) A.p = true ∧ inR (e (2 * k + 1)) A.n = true
      · obtain ⟨f, hf, ef⟩ := inR_t gd.2
        have o1 := okO_t gd.1 hp
        have oo : (if e (2 * k) = 9 then some 0 else some (e (2 * k) + 1)) = some (nI (oc (e (2 * k)))) := by
          have o2 := o1.2
          unfold oc
          by_cases g : e (2 * k) = 9
          · rw [if_pos g, if_pos g]; rfl
          · rw [if_neg g, if_neg g]
            have g1 := gd.1
            unfold okO at g1
            rw [decide_eq_false g, Bool.false_or] at g1
            obtain ⟨j, hj, ej⟩ := inR_t g1
            rw [ej, nI_clamp (by omega), li_1, nI_add]
        have r5 : OW A (og A e (k + 1)) (si m 69 f (nI (oc (e (2 * k))))) := by
          have := r3.sx w hf o1.1
          have e1 : (e (2 * k + 1)).toNatClampNeg = f := by rw [ef, nI_clamp (by omega)]
          unfold og
          rw [e1]; exact this
        have hm5 : MR A (si m 69 f (nI (oc (e (2 * k))))) := hm.sx (Or.inl (Or.inr (Or.inl (by omega))))
        rw [gd.1, gd.2, oo, ef]
        simp only [Option.bind_some, Option.bind_none, if_true, if_false, ite_true, ite_false, Bool.false_eq_true, Bool.true_eq_false, Bool.not_true, Bool.not_false, decide_true, decide_false, decide_eq_true_eq, Sum.elim_inl, Sum.elim_inr, ne_eq, not_true, not_false_iff, reduceIte, reduceCtorEq, Bool.cond_true, Bool.cond_false, stA_n (show f < 6 by omega) (show 6 ≤ 5000 by omega), m_isFine hm5 w r5, li_2, nI_add]
        cases hl : lw A (og A e (k + 1))
        · refine Or.inr ⟨_, rfl, (fail ?_).symm, ag_st r4 (Or.inr (Or.inl (by omega)))⟩
          unfold jp; rw [gd.1, gd.2, hl]; rfl
        · refine Or.inl ⟨_, rfl, ?_, fun j hj => ?_, r5, ag_st r4 (Or.inr (Or.inl (by omega)))⟩
          · show nI (2 * k + 2) = nI (2 * (k + 1)); rfl
          · by_cases e : j = k
            · subst e; unfold jp; rw [gd.1, gd.2, hl]; rfl
            · exact r2 j (by omega)
      · have c31 : (if (!okO (e (2 * k)) A.p) = true then some true else some (!inR (e (2 * k + 1)) A.n)) = some true := by
          revert gd
          cases okO (e (2 * k)) A.p <;> cases inR (e (2 * k + 1)) A.n <;> simp
        rw [c31]
        refine Or.inr ⟨_, rfl, (fail ?_).symm, r4⟩
        unfold jp
        revert gd
        cases okO (e (2 * k)) A.p <;> cases inR (e (2 * k + 1)) A.n <;> simp) (by
      rintro ⟨i, m⟩ ⟨r1, r2, r3, r4⟩
      simp only at r1 r3 r4; subst r1
      refine ⟨.inl m, ?_, r2, r4⟩
      simp only [M_judge_s1, li_1, nI_add, if_neg (nI_nlt (show z ≤ 2 * (z / 2) + 1 by omega) (show 2 * (z / 2) + 1 < 2 ^ 31 by omega))])
  rw [q1]
  simp only [Option.bind_some]
  rcases o with m | ⟨r, m⟩
  · obtain ⟨y1, y2⟩ := q2
    refine ⟨m, ?_, y2⟩
    unfold jr
    rw [fnd_none y1]
    simp only [Sum.elim_inl, li_1, li_2, rm_n (show z < 2 ^ 31 by omega) (show 0 < 2 by omega) (show 2 < 2 ^ 31 by omega), nI_eq (show z % 2 < 2 ^ 31 by omega) (show 1 < 2 ^ 31 by omega), Option.elim_none]
    by_cases g : z % 2 = 1 <;> simp [g]
  · obtain ⟨y1, y2⟩ := q2
    refine ⟨m, ?_, y2⟩
    show some (r, m) = _
    rw [show r = _ from y1]
/-- a shelf for a call that wants bytes: refused alike, or a row of bytes -/
theorem bytes_cases {μ : MI} (h : INV μ) (x : Int32) : (N_shelfAt x = none ∧ ∀ m, M_wrongBytes x m = some (-1)) ∨ (∃ d r, d < 8 ∧ x = nI d ∧ r < 0 ∧ N_shelfAt x = some (38 + 3 * d) ∧ Shelf_bytesRefusal (38 + 3 * d) μ = some r ∧ ∀ m : MI, m.1 85 d = μ.1 85 d → m.1 88 d = μ.1 88 d → M_wrongBytes x m = some r) ∨ (∃ d z, d < 8 ∧ x = nI d ∧ z ≤ 100 ∧ N_shelfAt x = some (38 + 3 * d) ∧ Shelf_bytesRefusal (38 + 3 * d) μ = some 0 ∧ (∀ m : MI, m.1 85 d = μ.1 85 d → m.1 88 d = μ.1 88 d → M_wrongBytes x m = some 0) ∧ μ.1 (38 + 3 * d) 2 = nI z ∧ μ.1 89 d = nI z ∧ (∀ i, i < 100 → μ.2 90 (100 * d + i) = (μ.1 (38 + 3 * d + 2) i).toInt64) ∧ ∀ i, i < 100 → -128 ≤ (μ.1 (38 + 3 * d + 2) i).toInt ∧ (μ.1 (38 + 3 * d + 2) i).toInt ≤ 127) := by
  cases hx : inR x 8
  · exact Or.inl ⟨sh_no hx, fun m => m_wrongBytes_no hx m⟩
  obtain ⟨d, hd, rfl⟩ := inR_t hx
  obtain ⟨q, q1, q2, q3, q4, q5⟩ := h.2.2 d hd
  by_cases e2 : q = 2
  · subst e2
    obtain ⟨s, z, s1, z1, k1, k2, k3, k4, k5, k6⟩ := q5 rfl
    have b1 := c_bytes (so := s) q2 q1 (fun _ => ⟨k1, by omega⟩)
    have b2 : ∀ m : MI, m.1 85 d = μ.1 85 d → m.1 88 d = μ.1 88 d → M_wrongBytes (nI d) m = some (rb 2 s) := fun m e1 e2 => m_wrongBytes hd (e1.trans q3) q1 (fun _ => ⟨e2.trans k2, by omega⟩)
    by_cases es : s = 0
    · subst es
      have e40 : 40 + 3 * d = 38 + 3 * d + 2 := by omega
      rw [e40] at k5 k6
      exact Or.inr (Or.inr ⟨d, z, hd, rfl, z1, sh_yes hd, b1, b2, k3, k4, k5, k6 rfl⟩)
    · refine Or.inr (Or.inl ⟨d, rb 2 s, hd, rfl, ?_, sh_yes hd, b1, b2⟩)
      unfold rb
      rw [if_pos rfl, if_neg es]; decide
  · refine Or.inr (Or.inl ⟨d, rb q 0, hd, rfl, ?_, sh_yes hd, c_bytes q2 q1 (fun e => absurd e e2), fun m e1 _ => m_wrongBytes hd (e1.trans q3) q1 (fun e => absurd e e2)⟩)
    rcases (by omega : q = 0 ∨ q = 1) with rfl | rfl <;> decide
theorem L_11 {μ : MI} (h : INV μ) (x : Int32) : ∃ μ', Lc_11 x μ = some μ' ∧ INV μ' := by
  have g0 : INV (si μ 62 10 (nI 0)) := Lc_same h (ag_rf _ _) (ag_62 (by omega))
  unfold Lc_11 N_judge M_judge
  simp only [thr0, Option.bind_some]
  have r85 : (si μ 62 10 (nI 0)).1 85 = μ.1 85 := si_ne (by omega)
  have r88 : (si μ 62 10 (nI 0)).1 88 = μ.1 88 := si_ne (by omega)
  rcases bytes_cases h x with ⟨b1, b2⟩ | ⟨d, r, hd, rfl, hr, b1, b2, b3⟩ | ⟨d, z, hd, rfl, hz, b1, b2, b3, b4, b5, b6, b7⟩
  · rw [b1]
    simp only [onN_0, Option.bind_some, b2, show ((-1 : Int32) < 0) = True from by decide, if_true]
    exact ⟨_, rfl, g0⟩
  · rw [b1]
    have r0 : r ≠ 0 := fun e => by rw [e] at hr; exact absurd hr (by decide)
    simp only [onN_1, b2, Option.bind_some, if_pos r0, b3 _ (congrFun r85 d) (congrFun r88 d), if_pos hr, if_true]
    exact ⟨_, rfl, g0⟩
  · rw [b1]
    obtain ⟨A, w, co, k1, k2⟩ := h.1
    obtain ⟨m, e1, g1⟩ := N_judge_in hd k1 w hz b4
    simp only [onN_1, b2, Option.bind_some, show ¬ ((0 : Int32) ≠ 0) from fun e => e rfl, if_false]
    rw [e1]
    simp only [Option.bind_some]
    have g1' : ag pM m (si m 62 10 (nI 0)) := ag_62 (by omega)
    have k2' : MR A (si m 62 10 (nI 0)) := (k2.agC g1).agM g1'
    have c : ∀ a j, 38 ≤ a → a ≠ 62 → (si m 62 10 (nI 0)).1 a j = μ.1 a j := fun a j q1 q2 => by rw [si_ne q2]; exact g1.1 a j (by unfold pC; omega)
    obtain ⟨n, e2, g2⟩ := M_judge_in (e := μ.1 (38 + 3 * d + 2)) hd k2' w hz (fun i hi => by rw [si_2, g1.2]; exact b6 i hi)
    rw [b3 _ (c _ _ (by omega) (by omega)) (c _ _ (by omega) (by omega))]
    simp only [Option.bind_some, show ¬ ((0 : Int32) < 0) from by decide, if_false, ldA_n hd (show 8 ≤ 5000 by omega), c 89 d (by omega) (by omega), b5]
    rw [e2]
    simp only [Option.bind_some, if_true]
    exact ⟨n, rfl, Lc_same h g1 (ag_tr g1' g2)⟩
